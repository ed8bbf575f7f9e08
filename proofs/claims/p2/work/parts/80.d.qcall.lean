/-! the engine Q: 80.d.qcall -/
section SARR
variable (sing : Nat → Bool) (gG : Nat → List (Nat × Nat × Int × Int))
/-- the variables' values -/
noncomputable def svaQ (ent : List (Nat × Nat)) : List (Nat × Nat × sE) → List sE → sS → Option (List sE × sS)
  | [], σ, S => some (σ, S)
  | v :: vs, σ, S =>
    if v.1 = 0 then (match sgl S v.2.1 with
      | some (.inl e) => svaQ ent vs (σ ++ [e]) S
      | _ => none)
    else if v.1 = 1 then (match sgl S v.2.1 with
      | some (.inr (.inl e)) => svaQ ent vs (σ ++ [e]) S
      | _ => none)
    else if v.1 = 2 then (match ssu (fun s => σ[s]?) v.2.2 with
      | some i => if v.2.1 < 1000 then (if (sing v.2.1 && spr S (sng i)) = true then (match sldEQ sing gG S v.2.1 i σ with
          | some (e, T) => svaQ ent vs (σ ++ [e]) T
          | none => none) else none)
        else (match S.2.2.1.find? (fun m => m.1 == v.2.1 && sq0 S.2.2.2.1 S.2.2.2.2.1 (sadd m.2.1 i (-1))) with
          | some m => svaQ ent vs (σ ++ [m.2.2]) S
          | none => none)
      | none => none)
    else (match ent.find? (fun p => p.2 == σ.length) with
      | some p => (match S.2.2.2.2.2.find? (fun q => q.1 == p.1 + 1) with
        | some q => svaQ ent vs (σ ++ [q.2]) S
        | none => none)
      | none => none)
/-- the values and the state, if all that A says holds -/
noncomputable def sar0Q (A : sA) (S : sS) : Option (List sE × sS) := match svaQ sing gG A.2.2.2.2.1 A.2.1 [] S with
  | some (σ, T) => if (A.1.all (srf T) && (sbs T A.2.2.1 σ && A.2.2.2.1.all (scs T σ))) = true then some (σ, T) else none
  | none => none
end SARR
section SARRO
variable {reg : Nat → Nat} {sing : Nat → Bool} {gG : Nat → List (Nat × Nat × Int × Int)} {gv : Nat → Int → Int → zH → Prop} {ρ ρ0 : Nat → Int} {S T : sS} {loc : zL} {stk : List zV} {h : zH}
/-- a variable's value is e -/
noncomputable def svmQ (reg : Nat → Nat) (gv : Nat → Int → Int → zH → Prop) (ρ : Nat → Int) (loc : zL) (h : zH) (σ : List sE) (v : Nat × Nat × sE) (e : sE) : Prop :=
  (v.1 = 0 → ∃ x, zget loc v.2.1 = some (.inl x) ∧ x.toInt = sv ρ e) ∧ (v.1 = 1 → ∃ x, zget loc v.2.1 = some (.inr (.inl x)) ∧ x.toInt = sv ρ e) ∧ (v.1 = 2 → ∃ i, ssu (fun s => σ[s]?) v.2.2 = some i ∧ smmQ reg gv ρ h (v.2.1, i, e))
theorem sva_okQ (hsing : ∀ k k', sing (reg k) = true → reg k' = reg k → k' = k) (hcell : ∀ r, sing r = true → ∃ k, reg k = r) (hG : sG reg gG h) (ent : List (Nat × Nat)) : ∀ (vs : List (Nat × Nat × sE)) (σ σ' : List sE) (S T : sS) (ρ : Nat → Int), sMtQ reg gv ρ ρ0 S loc stk h → svaQ sing gG ent vs σ S = some (σ', T) → ∃ ρ', sMtQ reg gv ρ' ρ0 T loc stk h ∧ (∀ c ∈ σ, sv ρ' c = sv ρ c) ∧ (∃ τ, σ' = σ ++ τ ∧ τ.length = vs.length) ∧ (∀ i v, vs[i]? = some v → ∃ e, σ'[σ.length + i]? = some e ∧ svmQ reg gv ρ' loc h σ' v e) ∧ T.2.1 = S.2.1
  | [], σ, σ', S, T, ρ, hM, e => by
    cases e
    exact ⟨ρ, hM, fun _ _ => rfl, ⟨[], (List.append_nil _).symm, rfl⟩, (fun i v hv => (by cases hv)), rfl⟩
  | v :: vs, σ, σ', S, T, ρ, hM, e => by
    have step : ∀ (e1 : sE) (S1 : sS) (ρ1 : Nat → Int), sMtQ reg gv ρ1 ρ0 S1 loc stk h → (∀ c ∈ σ, sv ρ1 c = sv ρ c) → svaQ sing gG ent vs (σ ++ [e1]) S1 = some (σ', T) → S1.2.1 = S.2.1 → (∀ (ρ' : Nat → Int), (∀ c ∈ σ ++ [e1], sv ρ' c = sv ρ1 c) → (∀ (s : Nat) (f : sE), σ[s]? = some f → σ'[s]? = some f) → svmQ reg gv ρ' loc h σ' v e1) → ∃ ρ', sMtQ reg gv ρ' ρ0 T loc stk h ∧ (∀ c ∈ σ, sv ρ' c = sv ρ c) ∧ (∃ τ, σ' = σ ++ τ ∧ τ.length = (v :: vs).length) ∧ (∀ i w, (v :: vs)[i]? = some w → ∃ e, σ'[σ.length + i]? = some e ∧ svmQ reg gv ρ' loc h σ' w e) ∧ T.2.1 = S.2.1 := by
      intro e1 S1 ρ1 hM1 hσ1 hs hstk hv
      obtain ⟨ρ', a, b, ⟨τ, c1, c2⟩, d, d2⟩ := sva_okQ hsing hcell hG ent vs (σ ++ [e1]) σ' S1 T ρ1 hM1 hs
      have hpre : ∀ (s : Nat) (f : sE), σ[s]? = some f → σ'[s]? = some f := fun s f hf => by
        rw [c1, List.append_assoc, List.getElem?_append_left (List.getElem?_eq_some_iff.mp hf).1]
        exact hf
      refine ⟨ρ', a, fun c hc => (b c (List.mem_append_left _ hc)).trans (hσ1 c hc), ⟨e1 :: τ, by rw [c1, List.append_assoc]; rfl, by rw [List.length_cons, List.length_cons, c2]⟩, ?_, d2.trans hstk⟩
      intro i w hw
      match i, hw with
      | 0, hw =>
        cases hw
        refine ⟨e1, ?_, hv ρ' b hpre⟩
        rw [c1, List.append_assoc, List.getElem?_append_right (by omega)]
        simp
      | i + 1, hw =>
        obtain ⟨e2, p1, p2⟩ := d i w hw
        refine ⟨e2, ?_, p2⟩
        rw [← p1, List.length_append, List.length_singleton]
        congr 1
        omega
    unfold svaQ at e
    by_cases k0 : v.1 = 0
    · rw [if_pos k0] at e
      cases hg : sgl S v.2.1 with
      | none => rw [hg] at e; cases e
      | some s =>
        rw [hg] at e
        obtain ⟨w, w1, w2⟩ := sgl_okQ hM hg
        match s, w, e, w2, w1 with
        | .inl e1, .inl x, e, w2, w1 =>
          refine step e1 S ρ hM (fun _ _ => rfl) e rfl (fun ρ' h1 _ => ⟨fun _ => ⟨x, w1, ?_⟩, (fun q => (by omega)), (fun q => (by omega))⟩)
          rw [h1 e1 (List.mem_append_right _ (List.mem_singleton.mpr rfl))]
          exact w2
    · rw [if_neg k0] at e
      by_cases k1 : v.1 = 1
      · rw [if_pos k1] at e
        cases hg : sgl S v.2.1 with
        | none => rw [hg] at e; cases e
        | some s =>
          rw [hg] at e
          obtain ⟨w, w1, w2⟩ := sgl_okQ hM hg
          match s, w, e, w2, w1 with
          | .inr (.inl e1), .inr (.inl x), e, w2, w1 =>
            refine step e1 S ρ hM (fun _ _ => rfl) e rfl (fun ρ' h1 _ => ⟨(fun q => (by omega)), fun _ => ⟨x, w1, ?_⟩, (fun q => (by omega))⟩)
            rw [h1 e1 (List.mem_append_right _ (List.mem_singleton.mpr rfl))]
            exact w2
      · rw [if_neg k1] at e
        by_cases k2 : v.1 = 2
        · rw [if_pos k2] at e
          cases hi : ssu (fun s => σ[s]?) v.2.2 with
          | none => rw [hi] at e; cases e
          | some ix =>
            rw [hi] at e
            simp only at e
            by_cases hr : v.2.1 < 1000
            · rw [if_pos hr] at e
              split at e
              case isFalse => cases e
              case isTrue hc =>
                rw [Bool.and_eq_true] at hc
                have hp := spr_leQ hM hc.2
                rw [sng_v] at hp
                cases hl : sldEQ sing gG S v.2.1 ix σ with
                | none => rw [hl] at e; cases e
                | some z =>
                  obtain ⟨e1, S1⟩ := z
                  rw [hl] at e
                  obtain ⟨k, hk⟩ := hcell _ hc.1
                  rw [← hk] at hl
                  obtain ⟨ρ1, m1, m2, m5, m3, m4⟩ := sldE_okQ hsing hG hM (by rw [hk]; exact hr) (by omega) hl
                  refine step e1 S1 ρ1 m1 m4 e m5 (fun ρ' h1 h2 => ⟨(fun q => (by omega)), (fun q => (by omega)), fun _ => ⟨ix, ssu_mono h2 hi, ?_⟩⟩)
                  have hix : sv ρ' ix = sv ρ ix := by
                    have q1 := ssu_v (σ := fun s => σ[s]?) (ρ := ρ) (ρ' := fun s => match σ[s]? with | some f => sv ρ f | none => 0) (fun s f hf => by simp only [hf]) hi
                    have q2 := ssu_v (σ := fun s => σ[s]?) (ρ := ρ') (ρ' := fun s => match σ[s]? with | some f => sv ρ f | none => 0) (fun s f hf => by
                      simp only [hf]
                      have hm := List.mem_of_getElem? hf
                      rw [h1 f (List.mem_append_left _ hm), m4 f hm]) hi
                    rw [← q1, ← q2]
                  unfold smmQ
                  rw [if_pos hr]
                  simp only
                  rw [hix, h1 e1 (List.mem_append_right _ (List.mem_singleton.mpr rfl))]
                  refine ⟨by omega, fun k2 hk2 => ?_⟩
                  rw [hsing k k2 (by rw [hk]; exact hc.1) (hk2.trans hk.symm)]
                  exact m2
            · rw [if_neg hr] at e
              cases hf : S.2.2.1.find? (fun m => m.1 == v.2.1 && sq0 S.2.2.2.1 S.2.2.2.2.1 (sadd m.2.1 ix (-1))) with
              | none => rw [hf] at e; cases e
              | some m =>
                rw [hf] at e
                have hm := hM.2.2.1 m (List.mem_of_find?_eq_some hf)
                have hfs := List.find?_some hf
                rw [Bool.and_eq_true] at hfs
                have hm1 : m.1 = v.2.1 := eq_of_beq hfs.1
                have hz := sq0_v hM.2.2.2.1 hM.2.2.2.2.1 hfs.2
                rw [sadd_v] at hz
                have hz : sv ρ m.2.1 = sv ρ ix := by omega
                refine step m.2.2 S ρ hM (fun _ _ => rfl) e rfl (fun ρ' h1 h2 => ⟨(fun q => (by omega)), (fun q => (by omega)), fun _ => ⟨ix, ssu_mono h2 hi, ?_⟩⟩)
                have hix : sv ρ' ix = sv ρ ix := by
                  have q1 := ssu_v (σ := fun s => σ[s]?) (ρ := ρ) (ρ' := fun s => match σ[s]? with | some f => sv ρ f | none => 0) (fun s f hf => by simp only [hf]) hi
                  have q2 := ssu_v (σ := fun s => σ[s]?) (ρ := ρ') (ρ' := fun s => match σ[s]? with | some f => sv ρ f | none => 0) (fun s f hf => by
                    simp only [hf]
                    have hm := List.mem_of_getElem? hf
                    rw [h1 f (List.mem_append_left _ hm)]) hi
                  rw [← q1, ← q2]
                unfold smmQ at hm ⊢
                rw [if_neg (by omega)] at hm
                rw [if_neg hr]
                simp only
                rw [h1 m.2.2 (List.mem_append_right _ (List.mem_singleton.mpr rfl)), ← hm1, hix, ← hz]
                exact hm
        · rw [if_neg k2] at e
          cases hf : ent.find? (fun p => p.2 == σ.length) with
          | none => rw [hf] at e; cases e
          | some p =>
            rw [hf] at e
            simp only at e
            cases hf2 : S.2.2.2.2.2.find? (fun q => q.1 == p.1 + 1) with
            | none => rw [hf2] at e; cases e
            | some q =>
              rw [hf2] at e
              exact step q.2 S ρ hM (fun _ _ => rfl) e rfl (fun ρ' h1 h2 => ⟨(fun q => (by omega)), (fun q => (by omega)), (fun q => (by omega))⟩)
theorem svl_okQ {ρ : Nat → Int} {σ : List sE} : ∀ (vs : List (Nat × Nat × sE)) (j : Nat), (∀ i v, vs[i]? = some v → ∃ e, σ[j + i]? = some e ∧ svmQ reg gv ρ loc h σ v e) → (∀ p ∈ svl j vs, ∃ w, zget loc p.1 = some w ∧ sm reg (sval ρ σ) w p.2) ∧ (∀ m ∈ svp j vs, smmQ reg gv (sval ρ σ) h m)
  | [], j, _ => ⟨(fun p hp => (by cases hp)), (fun p hp => (by cases hp))⟩
  | v :: vs, j, hv => by
    obtain ⟨e, e1, e2⟩ := hv 0 v rfl
    have ih := svl_okQ vs (j + 1) (fun i w hw => by
      obtain ⟨e, a, b⟩ := hv (i + 1) w hw
      refine ⟨e, ?_, b⟩
      rw [← a]
      congr 1
      omega)
    have hj : sval ρ σ j = sv ρ e := sval_h j e e1
    constructor
    · intro p hp
      unfold svl at hp
      by_cases k0 : v.1 = 0
      · rw [if_pos k0] at hp
        rcases List.mem_cons.mp hp with rfl | hp
        · obtain ⟨x, x1, x2⟩ := e2.1 k0
          exact ⟨_, x1, by show x.toInt = _; rw [sY_v, hj]; exact x2⟩
        · exact ih.1 p hp
      · rw [if_neg k0] at hp
        by_cases k1 : v.1 = 1
        · rw [if_pos k1] at hp
          rcases List.mem_cons.mp hp with rfl | hp
          · obtain ⟨x, x1, x2⟩ := e2.2.1 k1
            exact ⟨_, x1, by show x.toInt = _; rw [sY_v, hj]; exact x2⟩
          · exact ih.1 p hp
        · rw [if_neg k1] at hp
          exact ih.1 p hp
    · intro p hp
      unfold svp at hp
      by_cases k2 : v.1 = 2
      · rw [if_pos k2] at hp
        rcases List.mem_cons.mp hp with rfl | hp
        · obtain ⟨i, i1, i2⟩ := e2.2.2 k2
          unfold smmQ at i2 ⊢
          simp only at i2 ⊢
          rw [sY_v, hj, ssu_v (ρ := ρ) sval_h i1]
          exact i2
        · exact ih.2 p hp
      · rw [if_neg k2] at hp
        exact ih.2 p hp
theorem sbs_okQ (hM : sMtQ reg gv ρ ρ0 S loc stk h) : ∀ {l : sB} {σ : List sE}, sbs S l σ = true → ∀ j b, l[j]? = some b → b.1 ≤ sval ρ σ j ∧ sval ρ σ j ≤ b.2
  | [], _, _, j, b, hb => by cases hb
  | b0 :: l, e :: σ, hs, j, b, hb => by
    unfold sbs at hs
    simp only [Bool.and_eq_true] at hs
    obtain ⟨s1, s2Q, s3⟩ := hs
    match j, hb with
    | 0, hb =>
      cases hb
      have p1 := spr_leQ hM s1
      have p2 := spr_leQ hM s2Q
      rw [sac_v] at p1
      rw [sac_v, sng_v] at p2
      show b0.1 ≤ sv ρ e ∧ sv ρ e ≤ b0.2
      omega
    | j + 1, hb => exact sbs_okQ hM s3 j b hb
/-- all but what was at the start -/
theorem sar0_okQ (hsing : ∀ k k', sing (reg k) = true → reg k' = reg k → k' = k) (hcell : ∀ r, sing r = true → ∃ k, reg k = r) (hG : sG reg gG h) {A : sA} {σ : List sE} (hM : sMtQ reg gv ρ ρ0 S loc stk h) (ha : sar0Q sing gG A S = some (σ, T)) : ∃ ρ1, sMtQ reg gv ρ1 ρ0 T loc stk h ∧ (∀ p ∈ (sAs A).1, ∃ v, zget loc p.1 = some v ∧ sm reg (sval ρ1 σ) v p.2) ∧ (∀ m ∈ (sAs A).2.2.1, smmQ reg gv (sval ρ1 σ) h m) ∧ sOk A.2.2.1 (sval ρ1 σ) ∧ (∀ c ∈ A.2.2.2.1, sv (sval ρ1 σ) c ≤ 0) ∧ T.2.1 = S.2.1 ∧ σ.length = A.2.1.length := by
  unfold sar0Q at ha
  cases hv : svaQ sing gG A.2.2.2.2.1 A.2.1 [] S with
  | none => rw [hv] at ha; cases ha
  | some z =>
    obtain ⟨σ1, T1⟩ := z
    rw [hv] at ha
    simp only at ha
    split at ha
    case isFalse => cases ha
    case isTrue hc =>
      cases ha
      simp only [Bool.and_eq_true, List.all_eq_true] at hc
      obtain ⟨c1, c2, c3⟩ := hc
      obtain ⟨ρ1, m, -, ⟨τ, t1, t2⟩, d, d2⟩ := sva_okQ hsing hcell hG A.2.2.2.2.1 A.2.1 [] σ S T ρ hM hv
      have hvl := svl_okQ A.2.1 0 (fun i v hi => by
        obtain ⟨e, a, b⟩ := d i v hi
        exact ⟨e, a, b⟩)
      refine ⟨ρ1, m, ?_, hvl.2, sbs_okQ m c2, ?_, d2, by rw [t1]; exact t2⟩
      · intro p hp
        rcases List.mem_append.mp hp with hp | hp
        · obtain ⟨q, hq, rfl⟩ := List.mem_map.mp hp
          have hr := c1 q hq
          unfold srf at hr
          cases hg : sgl T q.1 with
          | none => rw [hg] at hr; cases hr
          | some s =>
            rw [hg] at hr
            obtain ⟨w, w1, w2⟩ := sgl_okQ m hg
            match s, w, hr, w2, w1 with
            | .inr (.inr r), .inr (.inr k), hr, w2, w1 => exact ⟨_, w1, w2.trans (eq_of_beq hr)⟩
        · exact hvl.1 p hp
      · intro c hcc
        have q := c3 c hcc
        unfold scs at q
        cases hs : ssu (fun s => σ[s]?) c with
        | none => rw [hs] at q; cases q
        | some d =>
          rw [hs] at q
          rw [ssu_v (ρ := ρ1) sval_h hs]
          exact spr_leQ m q
end SARRO
noncomputable def sExQ (reg : Nat → Nat) (gv : Nat → Int → Int → zH → Prop) (n : Nat) (X : sX) (ρ0 : Nat → Int) (r : Option zV) (h : zH) : Prop := ∃ ρx : Nat → Int, (∀ j, j < n → ρx j = ρ0 (j + 1)) ∧ (∀ k b, X.2.2.1[k]? = some b → b.1 ≤ ρx (n + k) ∧ ρx (n + k) ≤ b.2) ∧ (∀ c ∈ X.2.2.2.1, sv ρx c ≤ 0) ∧ (∀ m ∈ X.2.1, smmQ reg gv ρx h m) ∧ srt reg ρx X.1 r
section SXD
variable (sing : Nat → Bool) (gG : Nat → List (Nat × Nat × Int × Int)) (gu : Nat → sD) (rin : Nat → (Nat × List Nat) ⊕ (Nat × Nat × List Nat)) (mL : Nat → Nat)
/-- the values of an end's places -/
noncomputable def srvQ (n : Nat) : List (Nat × sE × sE) → sS → List sE → Option (List sE × sS)
  | [], S, es => some (es, S)
  | m :: l, S, es => if m.1 < 1000 then (match ssu (sen S n) m.2.1 with
      | some i => if (sing m.1 && spr S (sng i)) = true then (match sldEQ sing gG S m.1 i es with
        | some (e, T) => srvQ n l T (es ++ [e])
        | none => none) else none
      | none => none)
    else (match ssu (sen S n) m.2.1 with
      | some i => (match S.2.2.1.find? (fun q => q.1 == m.1 && sq0 S.2.2.2.1 S.2.2.2.2.1 (sadd q.2.1 i (-1))) with
        | some q => srvQ n l S (es ++ [q.2.2])
        | none => none)
      | none => none)
/-- the state behind a call that ends by X -/
noncomputable def sap1Q (loc : List (Nat × sV)) (rest : List sV) (md : sD) (σ : List sE) (T : sS) (X : sX) : Option (Option sS) := match sfn X.2.2.1 σ (sklQ gu md T) with
  | some (σ', T1) => (match scas σ' X.2.2.2.1 T1 with
    | some (some T2) => (match shm σ' X.2.1, srp σ' X.1 with
      | some ms, some rv => some (some (loc, rv ++ rest, ms ++ T2.2.2.1, T2.2.2.2))
      | _, _ => none)
    | some none => some none
    | none => none)
  | none => none
noncomputable def sap2Q (loc : List (Nat × sV)) (rest : List sV) (md : sD) (σ : List sE) (T : sS) : List sX → Option (List sS)
  | [] => some []
  | X :: l => match sap1Q gu loc rest md σ T X, sap2Q loc rest md σ T l with
    | some (some S), some L => some (S :: L)
    | some none, some L => some L
    | _, _ => none
end SXD
section SXO
variable {tab rin : Nat → (Nat × List Nat) ⊕ (Nat × Nat × List Nat)} {reg : Nat → Nat} {sing : Nat → Bool} {gG : Nat → List (Nat × Nat × Int × Int)} {gu : Nat → sD} {mL : Nat → Nat} {gv : Nat → Int → Int → zH → Prop} {ρ ρ0 : Nat → Int} {S T : sS} {loc : zL} {stk : List zV} {h : zH}
theorem sen_okQ (hM : sMtQ reg gv ρ ρ0 S loc stk h) {n s : Nat} {f : sE} (hs : sen S n s = some f) : s < n ∧ ρ0 (s + 1) = sv ρ f := by
  unfold sen at hs
  split at hs
  case isFalse => cases hs
  case isTrue hn =>
    cases hf : S.2.2.2.2.2.find? (fun q => q.1 == s + 1) with
    | none => rw [hf] at hs; cases hs
    | some q =>
      rw [hf] at hs
      cases hs
      have h1 : q.1 = s + 1 := by have := List.find?_some hf; simpa using this
      have h2 := hM.2.2.2.2.2 q (List.mem_of_find?_eq_some hf)
      rw [h1] at h2
      exact ⟨hn, h2⟩
theorem srv_okQ (hsing : ∀ k k', sing (reg k) = true → reg k' = reg k → k' = k) (hcell : ∀ r, sing r = true → ∃ k, reg k = r) (hG : sG reg gG h) (n : Nat) : ∀ (hv : List (Nat × sE × sE)) (S : sS) (es es' : List sE) (T : sS) (ρ : Nat → Int), sMtQ reg gv ρ ρ0 S loc stk h → srvQ sing gG n hv S es = some (es', T) → ∃ ρ', sMtQ reg gv ρ' ρ0 T loc stk h ∧ (∀ c ∈ es, sv ρ' c = sv ρ c) ∧ (∃ τ, es' = es ++ τ) ∧ (∀ i m, hv[i]? = some m → ∃ e, es'[es.length + i]? = some e ∧ ∀ ρx : Nat → Int, (∀ j, j < n → ρx j = ρ0 (j + 1)) → sv ρx m.2.2 = sv ρ' e → smmQ reg gv ρx h m)
  | [], S, es, es', T, ρ, hM, e => by
    cases e
    exact ⟨ρ, hM, fun _ _ => rfl, ⟨[], (List.append_nil _).symm⟩, fun i m hm => by cases hm⟩
  | m :: l, S, es, es', T, ρ, hM, e => by
    have step : ∀ (e1 : sE) (S1 : sS) (ρ1 : Nat → Int), sMtQ reg gv ρ1 ρ0 S1 loc stk h → (∀ c ∈ es, sv ρ1 c = sv ρ c) → srvQ sing gG n l S1 (es ++ [e1]) = some (es', T) → (∀ ρx : Nat → Int, (∀ j, j < n → ρx j = ρ0 (j + 1)) → sv ρx m.2.2 = sv ρ1 e1 → smmQ reg gv ρx h m) → ∃ ρ', sMtQ reg gv ρ' ρ0 T loc stk h ∧ (∀ c ∈ es, sv ρ' c = sv ρ c) ∧ (∃ τ, es' = es ++ τ) ∧ (∀ i w, (m :: l)[i]? = some w → ∃ e, es'[es.length + i]? = some e ∧ ∀ ρx : Nat → Int, (∀ j, j < n → ρx j = ρ0 (j + 1)) → sv ρx w.2.2 = sv ρ' e → smmQ reg gv ρx h w) := by
      intro e1 S1 ρ1 hM1 hes1 hs hv1
      obtain ⟨ρ', a, b, ⟨τ, c1⟩, d⟩ := srv_okQ hsing hcell hG n l S1 (es ++ [e1]) es' T ρ1 hM1 hs
      refine ⟨ρ', a, fun c hc => (b c (List.mem_append_left _ hc)).trans (hes1 c hc), ⟨e1 :: τ, by rw [c1, List.append_assoc]; rfl⟩, ?_⟩
      intro i w hw
      match i, hw with
      | 0, hw =>
        cases hw
        refine ⟨e1, ?_, fun ρx h1 h2 => hv1 ρx h1 (by rw [h2, b e1 (List.mem_append_right _ (List.mem_singleton.mpr rfl))])⟩
        rw [c1, List.append_assoc, List.getElem?_append_right (by omega)]
        simp
      | i + 1, hw =>
        obtain ⟨e2, p1, p2⟩ := d i w hw
        refine ⟨e2, ?_, p2⟩
        rw [← p1, List.length_append, List.length_singleton]
        congr 1
        omega
    unfold srvQ at e
    by_cases hr : m.1 < 1000
    · rw [if_pos hr] at e
      cases hi : ssu (sen S n) m.2.1 with
      | none => rw [hi] at e; cases e
      | some ix =>
        rw [hi] at e
        simp only at e
        split at e
        case isFalse => cases e
        case isTrue hc =>
          rw [Bool.and_eq_true] at hc
          have hp := spr_leQ hM hc.2
          rw [sng_v] at hp
          cases hl : sldEQ sing gG S m.1 ix es with
          | none => rw [hl] at e; cases e
          | some z =>
            obtain ⟨e1, S1⟩ := z
            rw [hl] at e
            obtain ⟨k, hk⟩ := hcell _ hc.1
            rw [← hk] at hl
            obtain ⟨ρ1, m1, m2, -, m3, m4⟩ := sldE_okQ hsing hG hM (by rw [hk]; exact hr) (by omega) hl
            refine step e1 S1 ρ1 m1 m4 e (fun ρx h1 h2 => ?_)
            have hix : sv ρx m.2.1 = sv ρ ix := ssu_v (fun s f hf => by
              have := sen_okQ hM hf
              rw [h1 s this.1]
              exact this.2) hi
            unfold smmQ
            rw [if_pos hr, hix, h2]
            refine ⟨by omega, fun k2 hk2 => ?_⟩
            rw [hsing k k2 (by rw [hk]; exact hc.1) (hk2.trans hk.symm)]
            exact m2
    · rw [if_neg hr] at e
      cases hi : ssu (sen S n) m.2.1 with
      | none => rw [hi] at e; cases e
      | some ix =>
        rw [hi] at e
        simp only at e
        cases hf : S.2.2.1.find? (fun q => q.1 == m.1 && sq0 S.2.2.2.1 S.2.2.2.2.1 (sadd q.2.1 ix (-1))) with
        | none => rw [hf] at e; cases e
        | some q =>
          rw [hf] at e
          have hm := hM.2.2.1 q (List.mem_of_find?_eq_some hf)
          have hfs := List.find?_some hf
          rw [Bool.and_eq_true] at hfs
          have hm1 : q.1 = m.1 := eq_of_beq hfs.1
          have hz := sq0_v hM.2.2.2.1 hM.2.2.2.2.1 hfs.2
          rw [sadd_v] at hz
          have hz : sv ρ q.2.1 = sv ρ ix := by omega
          refine step q.2.2 S ρ hM (fun _ _ => rfl) e (fun ρx h1 h2 => ?_)
          have hix : sv ρx m.2.1 = sv ρ ix := ssu_v (fun s f hf => by
            have := sen_okQ hM hf
            rw [h1 s this.1]
            exact this.2) hi
          unfold smmQ at hm ⊢
          rw [if_neg (by omega)] at hm
          rw [if_neg hr, h2, ← hm1, hix, ← hz]
          exact hm
theorem sxb_okQ {σ : Nat → Option sE} {n : Nat} {ρx : Nat → Int} (hM : sMtQ reg gv ρ ρ0 T loc stk h) (hσ : ∀ s f, σ s = some f → ρx s = sv ρ f) : ∀ {l : sB} {k : Nat}, sxb T σ n k l = true → ∀ i b, l[i]? = some b → b.1 ≤ ρx (n + (k + i)) ∧ ρx (n + (k + i)) ≤ b.2
  | [], _, _, i, b, hb => by cases hb
  | b0 :: l, k, hs, i, b, hb => by
    unfold sxb at hs
    rw [Bool.and_eq_true] at hs
    match i, hb with
    | 0, hb =>
      cases hb
      cases he : σ (n + k) with
      | none => rw [he] at hs; cases hs.1
      | some e =>
        rw [he] at hs
        have q := hs.1
        simp only [Bool.and_eq_true] at q
        have p1 := spr_leQ hM q.1
        have p2 := spr_leQ hM q.2
        rw [sac_v] at p1
        rw [sac_v, sng_v] at p2
        have := hσ _ _ he
        show b0.1 ≤ ρx (n + k) ∧ ρx (n + k) ≤ b0.2
        omega
    | i + 1, hb =>
      have := sxb_okQ hM hσ hs.2 i b hb
      rw [show k + (i + 1) = k + 1 + i by omega]
      exact this
theorem sfn_okQ : ∀ (l : sB) (σ σ' : List sE) (S T : sS) (ρ : Nat → Int) (f : Nat → Int), sMtQ reg gv ρ ρ0 S loc stk h → sfn l σ S = some (σ', T) → (∀ k b, l[k]? = some b → b.1 ≤ f k ∧ f k ≤ b.2) → ∃ ρ', sMtQ reg gv ρ' ρ0 T loc stk h ∧ (∀ c ∈ σ, sv ρ' c = sv ρ c) ∧ (∃ τ, σ' = σ ++ τ ∧ τ.length = l.length ∧ ∀ k e, τ[k]? = some e → sv ρ' e = f k) ∧ T.2.1 = S.2.1
  | [], σ, σ', S, T, ρ, f, hM, e, hf => by
    cases e
    exact ⟨ρ, hM, fun _ _ => rfl, ⟨[], (List.append_nil _).symm, rfl, fun k e he => by cases he⟩, rfl⟩
  | b :: l, σ, σ', S, T, ρ, f, hM, e, hf => by
    unfold sfn at e
    cases hs : sfr b.1 b.2 S σ with
    | none => rw [hs] at e; cases e
    | some z =>
      obtain ⟨e1, S1⟩ := z
      rw [hs] at e
      have hb := hf 0 b rfl
      obtain ⟨ρ1, a1, a2, a3, -, a4, -⟩ := sfr_okQ hs hM hb.1 hb.2
      obtain ⟨ρ', b1, b2, ⟨τ, b3, b4, b5⟩, b6⟩ := sfn_okQ l (σ ++ [e1]) σ' S1 T ρ1 (fun k => f (k + 1)) a1 e (fun k bb hk => hf (k + 1) bb hk)
      refine ⟨ρ', b1, fun c hc => (b2 c (List.mem_append_left _ hc)).trans (a3 c hc), ⟨e1 :: τ, by rw [b3, List.append_assoc]; rfl, by rw [List.length_cons, List.length_cons, b4], ?_⟩, b6.trans a4⟩
      intro k ee hk
      match k, hk with
      | 0, hk =>
        cases hk
        rw [b2 e1 (List.mem_append_right _ (List.mem_singleton.mpr rfl))]
        exact a2
      | k + 1, hk => exact b5 k ee hk
theorem scas_okQ {σ : List sE} {ρx : Nat → Int} : ∀ (l : List sE) (S : sS) (o : Option sS), sMtQ reg gv ρ ρ0 S loc stk h → (∀ s f, σ[s]? = some f → ρx s = sv ρ f) → (∀ c ∈ l, sv ρx c ≤ 0) → scas σ l S = some o → ∃ T, o = some T ∧ sMtQ reg gv ρ ρ0 T loc stk h ∧ T.2.1 = S.2.1
  | [], S, o, hM, _, _, e => by
    cases e
    exact ⟨S, rfl, hM, rfl⟩
  | c :: l, S, o, hM, hσ, hl, e => by
    unfold scas at e
    cases hs : ssu (fun s => σ[s]?) c with
    | none => rw [hs] at e; cases e
    | some d =>
      rw [hs] at e
      have hc := hl c (List.mem_cons_self ..)
      rw [ssu_v (σ := fun s => σ[s]?) (ρ := ρ) hσ hs] at hc
      obtain ⟨S1, e1, e2, e3⟩ := sas_okQ hM hc
      simp only [e1] at e
      obtain ⟨T, t1, t2, t3⟩ := scas_okQ l S1 o e2 hσ (fun c hc => hl c (List.mem_cons_of_mem _ hc)) e
      exact ⟨T, t1, t2, t3.trans e3⟩
theorem shm_okQ {σ : List sE} {ρx : Nat → Int} (hσ : ∀ s f, σ[s]? = some f → ρx s = sv ρ f) : ∀ {l r : List (Nat × sE × sE)}, shm σ l = some r → (∀ m ∈ l, smmQ reg gv ρx h m) → ∀ m ∈ r, smmQ reg gv ρ h m
  | [], r, e, _, m, hm => by
    cases e
    cases hm
  | m0 :: l, r, e, hl, m, hm => by
    unfold shm at e
    cases h1 : ssu (fun s => σ[s]?) m0.2.1 with
    | none => rw [h1] at e; cases e
    | some i =>
      cases h2 : ssu (fun s => σ[s]?) m0.2.2 with
      | none => rw [h1, h2] at e; cases e
      | some v =>
        cases h3 : shm σ l with
        | none => rw [h1, h2, h3] at e; cases e
        | some r1 =>
          rw [h1, h2, h3] at e
          cases e
          rcases List.mem_cons.mp hm with rfl | hm
          · have q := hl m0 (List.mem_cons_self ..)
            unfold smmQ at q ⊢
            rw [ssu_v (σ := fun s => σ[s]?) (ρ := ρ) hσ h1, ssu_v (σ := fun s => σ[s]?) (ρ := ρ) hσ h2] at q
            exact q
          · exact shm_okQ hσ h3 (fun m hm => hl m (List.mem_cons_of_mem _ hm)) m hm
theorem sap2_memQ {loc1 : List (Nat × sV)} {rest : List sV} {md : sD} {σ : List sE} {T : sS} : ∀ {Xs : List sX} {L : List sS}, sap2Q gu loc1 rest md σ T Xs = some L → ∀ X ∈ Xs, ∃ o, sap1Q gu loc1 rest md σ T X = some o ∧ ∀ S', o = some S' → S' ∈ L
  | [], _, _, X, hX => by cases hX
  | X0 :: l, L, e, X, hX => by
    unfold sap2Q at e
    cases h1 : sap1Q gu loc1 rest md σ T X0 with
    | none => rw [h1] at e; cases e
    | some o =>
      cases h2 : sap2Q gu loc1 rest md σ T l with
      | none => rw [h1, h2] at e; cases o <;> cases e
      | some L1 =>
        rw [h1, h2] at e
        match o, e, h1 with
        | some S0, e, h1 =>
          cases e
          rcases List.mem_cons.mp hX with rfl | hX
          · exact ⟨some S0, h1, fun S' hS' => by cases hS'; exact List.mem_cons_self ..⟩
          · obtain ⟨o, o1, o2⟩ := sap2_memQ h2 X hX
            exact ⟨o, o1, fun S' hS' => List.mem_cons_of_mem _ (o2 S' hS')⟩
        | none, e, h1 =>
          cases e
          rcases List.mem_cons.mp hX with rfl | hX
          · exact ⟨none, h1, fun S' hS' => by cases hS'⟩
          · exact sap2_memQ h2 X hX
end SXO
section SSEG
variable (tab : Nat → (Nat × List Nat) ⊕ (Nat × Nat × List Nat)) (pI : Nat → Nat → Option Instr) (mL : Nat → Nat) (mR : Nat → Option FieldType) (fld : Nat → Nat → Option (Nat × Nat × Nat)) (kI : Nat → Nat → Option Int32) (kL : Nat → Nat → Option Int64) (gst : Nat → Nat → Option zV) (ldS fldS : Nat → Nat → Option Nat) (acp : Nat → Nat → Bool) (cal : Nat → Nat → Option (Nat × Nat × Nat))
variable (reg : Nat → Nat) (rin : Nat → (Nat × List Nat) ⊕ (Nat × Nat × List Nat)) (sing : Nat → Bool) (gG : Nat → List (Nat × Nat × Int × Int)) (gu : Nat → sD) (gv : Nat → Int → Int → zH → Prop)
noncomputable def sstpQ (mid : Nat) (md : sD) (i : Instr) (pc : Nat) (S : sS) : Option (List (Nat × sS)) := match s1 i pc S with
  | some L => some L
  | none => match s2Q rin sing gG gu md (fld mid) i pc S with
    | some L => some L
    | none => match s4 i pc S with
      | some L => some L
      | none => match s5 (kI mid) (kL mid) i pc S with
        | some L => some L
        | none => s6Q reg rin gG gu md (gst mid) (kI mid) (ldS mid) (fldS mid) (acp mid) i pc S
end SSEG
section SSEGO
variable {tab : Nat → (Nat × List Nat) ⊕ (Nat × Nat × List Nat)} {pI : Nat → Nat → Option Instr} {mL : Nat → Nat} {mR : Nat → Option FieldType} {fld : Nat → Nat → Option (Nat × Nat × Nat)} {kI : Nat → Nat → Option Int32} {kL : Nat → Nat → Option Int64} {gst : Nat → Nat → Option zV} {ldS fldS : Nat → Nat → Option Nat} {acp : Nat → Nat → Bool} {cal : Nat → Nat → Option (Nat × Nat × Nat)}
variable {reg : Nat → Nat} {rin : Nat → (Nat × List Nat) ⊕ (Nat × Nat × List Nat)} {sing : Nat → Bool} {gG : Nat → List (Nat × Nat × Int × Int)} {gu : Nat → sD} {gv : Nat → Int → Int → zH → Prop} {ρ ρ0 : Nat → Int} {S : sS} {loc : zL} {stk : List zV} {h h0 : zH}
theorem sstp_okQ (hcomp : ∀ k, rin (reg k) = smT reg (tab k)) (hsing : ∀ k k', sing (reg k) = true → reg k' = reg k → k' = k) (hr : ∀ k, reg k < 1000) (hgv : sGvQ reg gu gv) {mid : Nat} {md : sD} (hG : sG reg gG h) (hF : sF reg md h0 h) {i : Instr} {pc : Nat} {L : List (Nat × sS)} (hM : sMtQ reg gv ρ ρ0 S loc stk h) (hL : sstpQ fld kI kL gst ldS fldS acp reg rin sing gG gu mid md i pc S = some L) : ∃ q, zst tab fld kI kL gst ldS fldS acp mid i pc loc stk h = some q ∧ sG reg gG q.2.2.2 ∧ sF reg md h0 q.2.2.2 ∧ sgoQ reg gv ρ0 L q := by
  unfold sstpQ at hL
  cases h1 : s1 i pc S with
  | some L1 =>
    rw [h1] at hL
    cases hL
    obtain ⟨q, a, b, c⟩ := s1_okQ hM h1
    refine ⟨q, ?_, by rw [b]; exact hG, by rw [b]; exact hF, c⟩
    unfold zst
    rw [a]
  | none =>
    rw [h1] at hL
    simp only at hL
    cases h2 : s2Q rin sing gG gu md (fld mid) i pc S with
    | some L1 =>
      rw [h2] at hL
      cases hL
      obtain ⟨q, a, b, c, d⟩ := s2_okQ hcomp hsing hr hgv hG hF hM h2
      refine ⟨q, ?_, b, c, d⟩
      unfold zst
      rw [zf2_f1 a, a]
    | none =>
      rw [h2] at hL
      simp only at hL
      cases h4 : s4 i pc S with
      | some L1 =>
        rw [h4] at hL
        cases hL
        obtain ⟨q, a, b, c⟩ := s4_okQ hM h4
        refine ⟨q, ?_, by rw [b]; exact hG, by rw [b]; exact hF, c⟩
        have := zf4_f1 (tab := tab) (f := fld mid) a
        unfold zst
        rw [this.1, this.2, a]
      | none =>
        rw [h4] at hL
        simp only at hL
        cases h5 : s5 (kI mid) (kL mid) i pc S with
        | some L1 =>
          rw [h5] at hL
          cases hL
          obtain ⟨q, a, b, c⟩ := s5_okQ hM h5
          refine ⟨q, ?_, by rw [b]; exact hG, by rw [b]; exact hF, c⟩
          have := zf5_f1 (tab := tab) (f := fld mid) a
          unfold zst
          rw [this.1, this.2.1, this.2.2, a]
        | none =>
          rw [h5] at hL
          simp only at hL
          obtain ⟨a1, a2, a3, a4, q, a, b, c, d⟩ := s6_okQ (tab := tab) (fld := fld mid) (kL := kL mid) hcomp hgv hG hF hM hL
          refine ⟨q, ?_, b, c, d⟩
          unfold zst
          rw [a1, a2, a3, a4, a]
theorem sEx_congrQ {n : Nat} {X : sX} {ρ0' : Nat → Int} {r : Option zV} (he : ∀ j, ρ0' (j + 1) = ρ0 (j + 1)) (hx : sExQ reg gv n X ρ0' r h) : sExQ reg gv n X ρ0 r h := by
  obtain ⟨ρx, a, b⟩ := hx
  exact ⟨ρx, fun j hj => (a j hj).trans (he j), b⟩
end SSEGO
section SSPL
variable {reg : Nat → Nat} {gv : Nat → Int → Int → zH → Prop} {ρ ρ0 : Nat → Int} {loc : zL} {stk : List zV} {h : zH}
theorem sspl_okQ (e : sE) : ∀ (l : List Int) {S : sS}, sMtQ reg gv ρ ρ0 S loc stk h → ∃ T ∈ sspl e l S, sMtQ reg gv ρ ρ0 T loc stk h
  | [], S, hM => ⟨S, List.mem_singleton.mpr rfl, hM⟩
  | c :: l, S, hM => by
    have hlo : sv ρ e ≤ c - 1 → ∃ T, sas S (sac e (1 - c)) = some T ∧ sMtQ reg gv ρ ρ0 T loc stk h := by
      intro hv
      obtain ⟨T, e1, h1, -⟩ := sas_okQ hM (c := sac e (1 - c)) (by rw [sac_v]; omega)
      exact ⟨T, e1, h1⟩
    have hhi : c ≤ sv ρ e → ∃ T, sas S (sac (sng e) c) = some T ∧ sMtQ reg gv ρ ρ0 T loc stk h := by
      intro hv
      obtain ⟨T, e1, h1, -⟩ := sas_okQ hM (c := sac (sng e) c) (by rw [sac_v, sng_v]; omega)
      exact ⟨T, e1, h1⟩
    unfold sspl
    split
    case isTrue hq =>
      have := spr_leQ hM hq
      rw [sac_v] at this
      obtain ⟨T, e1, h1⟩ := hlo (by omega)
      exact ⟨T, by rw [e1]; exact List.mem_singleton.mpr rfl, h1⟩
    case isFalse =>
      split
      case isTrue hq =>
        have := spr_leQ hM hq
        rw [sac_v, sng_v] at this
        obtain ⟨T, e1, h1⟩ := hhi (by omega)
        rw [e1]
        exact sspl_okQ e l h1
      case isFalse =>
        by_cases hv : sv ρ e ≤ c - 1
        · obtain ⟨T, e1, h1⟩ := hlo hv
          exact ⟨T, List.mem_append_left _ (by rw [e1]; exact List.mem_singleton.mpr rfl), h1⟩
        · obtain ⟨T, e1, h1⟩ := hhi (by omega)
          obtain ⟨T2, h2, h3⟩ := sspl_okQ e l h1
          exact ⟨T2, List.mem_append_right _ (by rw [e1]; exact h2), h3⟩
theorem ssps_okQ : ∀ (r : List (sE × List Int)) {L : List sS}, (∃ T ∈ L, sMtQ reg gv ρ ρ0 T loc stk h) → ∃ T ∈ ssps r L, sMtQ reg gv ρ ρ0 T loc stk h
  | [], L, hL => hL
  | p :: r, L, ⟨T, hT, hM⟩ => by
    obtain ⟨T2, h2, h3⟩ := sspl_okQ p.1 p.2 hM
    exact ssps_okQ r ⟨T2, List.mem_flatMap.mpr ⟨T, hT, h2⟩, h3⟩
end SSPL
section SMETH2
variable {tab : Nat → (Nat × List Nat) ⊕ (Nat × Nat × List Nat)} {pI : Nat → Nat → Option Instr} {mL : Nat → Nat} {mR : Nat → Option FieldType} {fld : Nat → Nat → Option (Nat × Nat × Nat)} {kI : Nat → Nat → Option Int32} {kL : Nat → Nat → Option Int64} {gst : Nat → Nat → Option zV} {ldS fldS : Nat → Nat → Option Nat} {acp : Nat → Nat → Bool} {cal : Nat → Nat → Option (Nat × Nat × Nat)}
variable {reg : Nat → Nat} {rin : Nat → (Nat × List Nat) ⊕ (Nat × Nat × List Nat)} {sing : Nat → Bool} {gG : Nat → List (Nat × Nat × Int × Int)} {gu : Nat → sD} {gv : Nat → Int → Int → zH → Prop}
end SMETH2
section PXD
variable (sing : Nat → Bool) (gG : Nat → List (Nat × Nat × Int × Int)) (gu : Nat → sD) (rin : Nat → (Nat × List Nat) ⊕ (Nat × Nat × List Nat)) (mL : Nat → Nat)
/-- the state may end so -/
noncomputable def pxrQ (n : Nat) (X : sX) (S : sS) : Bool := match S.2.1, X.1 with
  | [.inl e], some (0, v) => (match srvQ sing gG n X.2.1 S [e] with
    | some (es, T) => pxe T (sxs T n X.2.2.2.2 es) v es[0]? && (pxh T (sxs T n X.2.2.2.2 es) es 1 X.2.1 && (sxb T (sxs T n X.2.2.2.2 es) n 0 X.2.2.1 && X.2.2.2.1.all (sxc T (sxs T n X.2.2.2.2 es))))
    | none => false)
  | [.inr (.inl e)], some (_ + 1, v) => (match srvQ sing gG n X.2.1 S [e] with
    | some (es, T) => pxe T (sxs T n X.2.2.2.2 es) v es[0]? && (pxh T (sxs T n X.2.2.2.2 es) es 1 X.2.1 && (sxb T (sxs T n X.2.2.2.2 es) n 0 X.2.2.1 && X.2.2.2.1.all (sxc T (sxs T n X.2.2.2.2 es))))
    | none => false)
  | [], none => (match srvQ sing gG n X.2.1 S [] with
    | some (es, T) => pxh T (sxs T n X.2.2.2.2 es) es 0 X.2.1 && (sxb T (sxs T n X.2.2.2.2 es) n 0 X.2.2.1 && X.2.2.2.1.all (sxc T (sxs T n X.2.2.2.2 es)))
    | none => false)
  | _, _ => false
end PXD
section PXO
variable {tab rin : Nat → (Nat × List Nat) ⊕ (Nat × Nat × List Nat)} {reg : Nat → Nat} {sing : Nat → Bool} {gG : Nat → List (Nat × Nat × Int × Int)} {gu : Nat → sD} {mL : Nat → Nat} {gv : Nat → Int → Int → zH → Prop} {ρ ρ0 : Nat → Int} {S T : sS} {loc : zL} {stk : List zV} {h : zH}
theorem peq_vQ (hMT : sMtQ reg gv ρ ρ0 T loc stk h) {d e : sE} (hp : peq T d e = true) : sv ρ d = sv ρ e := by
  unfold peq at hp
  rcases Bool.or_eq_true_iff.mp hp with hp | hp
  · have := sz0_v (ρ := ρ) hp
    rw [sadd_v] at this
    omega
  · rw [Bool.and_eq_true] at hp
    have p1 := spr_leQ hMT hp.1
    have p2 := spr_leQ hMT hp.2
    rw [sadd_v] at p1 p2
    omega
theorem pxe_okQ {σ : Nat → Option sE} {ρx : Nat → Int} {val : sE} {o : Option sE} (hMT : sMtQ reg gv ρ ρ0 T loc stk h) (hσ : ∀ s f, σ s = some f → ρx s = sv ρ f) (hs : pxe T σ val o = true) : ∃ e, o = some e ∧ sv ρx val = sv ρ e := by
  unfold pxe at hs
  cases h1 : ssu σ val with
  | none => rw [h1] at hs; cases hs
  | some d =>
    cases o with
    | none => rw [h1] at hs; cases hs
    | some e =>
      rw [h1] at hs
      refine ⟨e, rfl, ?_⟩
      rw [ssu_v hσ h1]
      exact peq_vQ hMT hs
theorem pxh_okQ {σ : Nat → Option sE} {ρx : Nat → Int} {es : List sE} (hMT : sMtQ reg gv ρ ρ0 T loc stk h) (hσ : ∀ s f, σ s = some f → ρx s = sv ρ f) : ∀ {l : List (Nat × sE × sE)} {k : Nat}, pxh T σ es k l = true → ∀ i m, l[i]? = some m → ∃ e, es[k + i]? = some e ∧ sv ρx m.2.2 = sv ρ e
  | [], _, _, i, m, hm => by cases hm
  | m0 :: l, k, hs, i, m, hm => by
    unfold pxh at hs
    rw [Bool.and_eq_true] at hs
    match i, hm with
    | 0, hm =>
      cases hm
      exact pxe_okQ hMT hσ hs.1
    | i + 1, hm =>
      have := pxh_okQ hMT hσ hs.2 i m hm
      rw [show k + (i + 1) = k + 1 + i by omega]
      exact this
theorem pxcoreQ (hsing : ∀ k k', sing (reg k) = true → reg k' = reg k → k' = k) (hcell : ∀ r, sing r = true → ∃ k, reg k = r) (hG : sG reg gG h) {n : Nat} {X : sX} (hM : sMtQ reg gv ρ ρ0 S loc stk h) {es0 es : List sE} (hs : srvQ sing gG n X.2.1 S es0 = some (es, T)) (hh : pxh T (sxs T n X.2.2.2.2 es) es es0.length X.2.1 = true) (hb : sxb T (sxs T n X.2.2.2.2 es) n 0 X.2.2.1 = true) (hc : X.2.2.2.1.all (sxc T (sxs T n X.2.2.2.2 es)) = true) : ∃ (ρ1 ρx : Nat → Int), sMtQ reg gv ρ1 ρ0 T loc stk h ∧ (∀ c ∈ es0, sv ρ1 c = sv ρ c) ∧ (∃ τ, es = es0 ++ τ) ∧ (∀ s f, sxs T n X.2.2.2.2 es s = some f → ρx s = sv ρ1 f) ∧ (∀ j, j < n → ρx j = ρ0 (j + 1)) ∧ (∀ k b, X.2.2.1[k]? = some b → b.1 ≤ ρx (n + k) ∧ ρx (n + k) ≤ b.2) ∧ (∀ c ∈ X.2.2.2.1, sv ρx c ≤ 0) ∧ (∀ m ∈ X.2.1, smmQ reg gv ρx h m) := by
  obtain ⟨ρ1, a, b, c, d⟩ := srv_okQ hsing hcell hG n X.2.1 S es0 es T ρ hM hs
  have hσ : ∀ s f, sxs T n X.2.2.2.2 es s = some f → (fun s => if s < n then ρ0 (s + 1) else match sxs T n X.2.2.2.2 es s with | some f => sv ρ1 f | none => 0) s = sv ρ1 f := fun s f hf => by
    show (if s < n then ρ0 (s + 1) else match sxs T n X.2.2.2.2 es s with | some f => sv ρ1 f | none => 0) = sv ρ1 f
    by_cases hn : s < n
    · rw [if_pos hn]
      unfold sxs at hf
      rw [if_pos hn] at hf
      exact (sen_okQ a hf).2
    · rw [if_neg hn, hf]
  have hj : ∀ j, j < n → (fun s => if s < n then ρ0 (s + 1) else match sxs T n X.2.2.2.2 es s with | some f => sv ρ1 f | none => 0) j = ρ0 (j + 1) := fun j hj => if_pos hj
  generalize (fun s => if s < n then ρ0 (s + 1) else match sxs T n X.2.2.2.2 es s with | some f => sv ρ1 f | none => 0) = ρx at hσ hj
  refine ⟨ρ1, ρx, a, b, c, hσ, hj, fun k bb hk => ?_, ?_, ?_⟩
  · have := sxb_okQ a hσ hb k bb hk
    rw [Nat.zero_add] at this
    exact this
  · intro cc hcc
    have q := (List.all_eq_true.mp hc) cc hcc
    unfold sxc at q
    cases hd : ssu (sxs T n X.2.2.2.2 es) cc with
    | none => rw [hd] at q; cases q
    | some dd =>
      rw [hd] at q
      rw [ssu_v hσ hd]
      exact spr_leQ a q
  · intro m hm
    obtain ⟨i, hi⟩ := List.mem_iff_getElem?.mp hm
    obtain ⟨e, e1, e2⟩ := d i m hi
    obtain ⟨e', f1, f2⟩ := pxh_okQ a hσ hh i m hi
    rw [e1] at f1
    cases f1
    exact e2 ρx hj f2
theorem pxr_okQ (hsing : ∀ k k', sing (reg k) = true → reg k' = reg k → k' = k) (hcell : ∀ r, sing r = true → ∃ k, reg k = r) (hG : sG reg gG h) {n : Nat} {X : sX} (hM : sMtQ reg gv ρ ρ0 S loc stk h) (hx : pxrQ sing gG n X S = true) : sExQ reg gv n X ρ0 stk.head? h ∧ ((∃ x e, stk = [.inl x] ∧ S.2.1 = [.inl e] ∧ x.toInt = sv ρ e) ∨ (∃ y e, stk = [.inr (.inl y)] ∧ S.2.1 = [.inr (.inl e)]) ∨ (stk = [] ∧ S.2.1 = [])) := by
  unfold pxrQ at hx
  have hs := hM.2.1
  split at hx
  case h_1 e v hst hX =>
    rw [hst] at hs
    obtain ⟨x, r, rfl, e1, e2⟩ := sms_i hs
    have hr : r = [] := List.eq_nil_of_length_eq_zero (by have := sms_len e2; simpa using this)
    subst hr
    cases hsr : srvQ sing gG n X.2.1 S [e] with
    | none => rw [hsr] at hx; cases hx
    | some z =>
      obtain ⟨es, T⟩ := z
      rw [hsr] at hx
      simp only [Bool.and_eq_true] at hx
      obtain ⟨x1, x2, x3, x4⟩ := hx
      obtain ⟨ρ1, ρx, a1, a2, ⟨τ, a3⟩, a4, a5, a6, a7, a8⟩ := pxcoreQ hsing hcell hG hM hsr x2 x3 x4
      obtain ⟨e', f1, f2⟩ := pxe_okQ a1 a4 x1
      rw [a3] at f1
      cases f1
      refine ⟨⟨ρx, a5, a6, a7, a8, ?_⟩, Or.inl ⟨x, e, rfl, hst, e1⟩⟩
      rw [hX]
      show x.toInt = sv ρx v
      rw [f2, a2 e (List.mem_singleton.mpr rfl)]
      exact e1
  case h_2 e t v hst hX =>
    rw [hst] at hs
    obtain ⟨x, r, rfl, e1, e2⟩ := sms_l hs
    have hr : r = [] := List.eq_nil_of_length_eq_zero (by have := sms_len e2; simpa using this)
    subst hr
    cases hsr : srvQ sing gG n X.2.1 S [e] with
    | none => rw [hsr] at hx; cases hx
    | some z =>
      obtain ⟨es, T⟩ := z
      rw [hsr] at hx
      simp only [Bool.and_eq_true] at hx
      obtain ⟨x1, x2, x3, x4⟩ := hx
      obtain ⟨ρ1, ρx, a1, a2, ⟨τ, a3⟩, a4, a5, a6, a7, a8⟩ := pxcoreQ hsing hcell hG hM hsr x2 x3 x4
      obtain ⟨e', f1, f2⟩ := pxe_okQ a1 a4 x1
      rw [a3] at f1
      cases f1
      refine ⟨⟨ρx, a5, a6, a7, a8, ?_⟩, Or.inr (Or.inl ⟨x, e, rfl, hst⟩)⟩
      rw [hX]
      show x.toInt = sv ρx v
      rw [f2, a2 e (List.mem_singleton.mpr rfl)]
      exact e1
  case h_3 hst hX =>
    rw [hst] at hs
    have hr : stk = [] := List.eq_nil_of_length_eq_zero (by have := sms_len hs; simpa using this)
    subst hr
    cases hsr : srvQ sing gG n X.2.1 S [] with
    | none => rw [hsr] at hx; cases hx
    | some z =>
      obtain ⟨es, T⟩ := z
      rw [hsr] at hx
      simp only [Bool.and_eq_true] at hx
      obtain ⟨x2, x3, x4⟩ := hx
      obtain ⟨ρ1, ρx, a1, a2, ⟨τ, a3⟩, a4, a5, a6, a7, a8⟩ := pxcoreQ hsing hcell hG hM hsr x2 x3 x4
      refine ⟨⟨ρx, a5, a6, a7, a8, ?_⟩, Or.inr (Or.inr ⟨rfl, hst⟩)⟩
      rw [hX]
      trivial
  case h_4 => cases hx
end PXO
