/-! the state's places: what is read, what is written, what stays -/
section SMEM
variable (reg : Nat → Nat) (sing : Nat → Bool) (gG : Nat → List (Nat × Nat × Int × Int)) (gu : Nat → sD)
/-- the bounds that every place keeps -/
noncomputable def sG (h : zH) : Prop := ∀ (k : Nat), ∀ z ∈ gG (reg k), ∀ i : Nat, z.1 ≤ i → i ≤ z.2.1 → z.2.2.1 ≤ (h.1 k i).toInt ∧ (h.1 k i).toInt ≤ z.2.2.2
/-- only the places of md may differ -/
noncomputable def sF (md : sD) (h0 h : zH) : Prop := ∀ k i, h.1 k i ≠ h0.1 k i → ∃ z ∈ md, reg k = z.1 ∧ z.2.1 ≤ (i : Int) ∧ (i : Int) ≤ z.2.2
/-- a told quantity hangs on its places alone -/
noncomputable def sGv (gv : Nat → zH → Int) : Prop := ∀ (a : Nat) (h h' : zH), (∀ k i : Nat, (∃ z ∈ gu a, reg k = z.1 ∧ z.2.1 ≤ (i : Int) ∧ (i : Int) ≤ z.2.2) → h.1 k i = h'.1 k i) → gv a h = gv a h'
noncomputable def sgb (r : Nat) (a b : Int) : Int × Int := match (gG r).find? (fun z => decide ((z.1 : Int) ≤ a) && decide (b ≤ (z.2.1 : Int))) with
  | some z => (z.2.2.1, z.2.2.2)
  | none => (-2147483648, 2147483647)
noncomputable def sz0 (e : sE) : Bool := decide (e.1 = 0) && e.2.isEmpty
theorem sz0_v {ρ : Nat → Int} {e : sE} (h : sz0 e = true) : sv ρ e = 0 := by
  unfold sz0 at h
  rw [Bool.and_eq_true, decide_eq_true_eq, List.isEmpty_iff] at h
  show e.1 + sT ρ e.2 = 0
  rw [h.1, h.2]
  rfl
noncomputable def sldE (S : sS) (r : Nat) (e : sE) (es : List sE) : Option (sE × sS) := match S.2.2.1.find? (fun m => decide (m.1 = r) && sq0 S.2.2.2.1 S.2.2.2.2.1 (sadd m.2.1 e (-1))) with
  | some m => some (m.2.2, S)
  | none => match sLb S.2.2.2.1 e, sUb S.2.2.2.1 e with
    | some a, some b => match sfr (sgb gG r a b).1 (sgb gG r a b).2 S (e :: es) with
      | some (v, T) => some (v, if sing r = true then (T.1, T.2.1, (r, e, v) :: T.2.2.1, T.2.2.2) else T)
      | none => none
    | _, _ => none
noncomputable def sld (S : sS) (r : Nat) (e : sE) : Option (sE × sS) := sldE sing gG S r e []
noncomputable def sov (d : sD) (r : Nat) (a b : Int) : Bool := d.any (fun z => decide (z.1 = r) && (decide (z.2.1 ≤ b) && decide (a ≤ z.2.2)))
/-- what a write at e of region r (places a to b) leaves -/
noncomputable def sk1 (S : sS) (r : Nat) (e : sE) (a b : Int) : List (Nat × sE × sE) := S.2.2.1.filter (fun m => if m.1 < 1000 then (!decide (m.1 = r) || sap S m.2.1 e) else !sov (gu (m.1 - 1000)) r a b)
noncomputable def sstr (md : sD) (S : sS) (r : Nat) (e v : sE) : Option sS := match sLb S.2.2.2.1 e, sUb S.2.2.2.1 e with
  | some a, some b => if ((gG r).all (fun z => decide (b < (z.1 : Int)) || (decide ((z.2.1 : Int) < a) || (spr S (sac v (-z.2.2.2)) && spr S (sac (sng v) z.2.2.1)))) && md.any (fun z => decide (z.1 = r) && (decide (z.2.1 ≤ a) && decide (b ≤ z.2.2)))) = true then
      some (S.1, S.2.1, if sing r = true then (r, e, v) :: sk1 gu S r e a b else sk1 gu S r e a b, S.2.2.2) else none
  | _, _ => none
/-- what a change of the places md leaves -/
noncomputable def skl (md : sD) (S : sS) : sS := (S.1, S.2.1, S.2.2.1.filter (fun m => md.all (fun z => if m.1 < 1000 then (!decide (m.1 = z.1) || (match sLb S.2.2.2.1 m.2.1, sUb S.2.2.2.1 m.2.1 with
  | some a, some b => decide (b < z.2.1) || decide (z.2.2 < a)
  | _, _ => false)) else !sov (gu (m.1 - 1000)) z.1 z.2.1 z.2.2)), S.2.2.2)
end SMEM
section SMEM2
variable {reg : Nat → Nat} {sing : Nat → Bool} {gG : Nat → List (Nat × Nat × Int × Int)} {gu : Nat → sD} {gv : Nat → zH → Int} {ρ ρ0 : Nat → Int} {S S' : sS} {loc : zL} {stk : List zV} {h : zH}
theorem sldE_ok (hsing : ∀ k k', sing (reg k) = true → reg k' = reg k → k' = k) (hG : sG reg gG h) (hM : sMt reg gv ρ ρ0 S loc stk h) {k : Nat} (hk : reg k < 1000) {e v : sE} (he : 0 ≤ sv ρ e) {es : List sE} (hl : sldE sing gG S (reg k) e es = some (v, S')) : ∃ ρ', sMt reg gv ρ' ρ0 S' loc stk h ∧ (h.1 k (sv ρ e).toNat).toInt = sv ρ' v ∧ S'.2.1 = S.2.1 ∧ sv ρ' e = sv ρ e ∧ (∀ c ∈ es, sv ρ' c = sv ρ c) := by
  unfold sldE at hl
  cases hf : S.2.2.1.find? (fun m => decide (m.1 = reg k) && sq0 S.2.2.2.1 S.2.2.2.2.1 (sadd m.2.1 e (-1))) with
  | some m =>
    rw [hf] at hl
    cases hl
    have hm := hM.2.2.1 m (List.mem_of_find?_eq_some hf)
    have hp := List.find?_some hf
    simp only [Bool.and_eq_true, decide_eq_true_eq] at hp
    have hz := sq0_v hM.2.2.2.1 hM.2.2.2.2.1 hp.2
    rw [sadd_v] at hz
    unfold smm at hm
    rw [if_pos (by omega)] at hm
    refine ⟨ρ, hM, ?_, rfl, rfl, fun _ _ => rfl⟩
    have := hm.2 k hp.1.symm
    rw [show sv ρ m.2.1 = sv ρ e by omega] at this
    exact this
  | none =>
    rw [hf] at hl
    cases ha : sLb S.2.2.2.1 e with
    | none => rw [ha] at hl; cases hl
    | some a =>
      cases hb : sUb S.2.2.2.1 e with
      | none => rw [ha, hb] at hl; cases hl
      | some b =>
        rw [ha, hb] at hl
        simp only at hl
        cases hfr : sfr (sgb gG (reg k) a b).1 (sgb gG (reg k) a b).2 S (e :: es) with
        | none => rw [hfr] at hl; cases hl
        | some q =>
          obtain ⟨w, T⟩ := q
          rw [hfr] at hl
          simp only at hl
          have h1 := sLb_le hM.2.2.2.1 ha
          have h2 := sUb_le hM.2.2.2.1 hb
          have hbd : (sgb gG (reg k) a b).1 ≤ (h.1 k (sv ρ e).toNat).toInt ∧ (h.1 k (sv ρ e).toNat).toInt ≤ (sgb gG (reg k) a b).2 := by
            unfold sgb
            cases hg : (gG (reg k)).find? (fun z => decide ((z.1 : Int) ≤ a) && decide (b ≤ (z.2.1 : Int))) with
            | none => exact ⟨Int32.le_toInt _, by have := Int32.toInt_lt (h.1 k (sv ρ e).toNat); simp at this ⊢; omega⟩
            | some z =>
              have hz := List.find?_some hg
              simp only [Bool.and_eq_true, decide_eq_true_eq] at hz
              exact hG k z (List.mem_of_find?_eq_some hg) _ (by omega) (by omega)
          obtain ⟨ρ', hM', hv, hes, e1, e2, e3⟩ := sfr_ok hfr hM hbd.1 hbd.2
          have hee := hes e (List.mem_cons_self ..)
          cases hl
          refine ⟨ρ', ?_, hv.symm, ?_, hee, fun c hc => hes c (List.mem_cons_of_mem _ hc)⟩
          · split
            case isFalse => exact hM'
            case isTrue hs =>
              obtain ⟨m1, m2, m3, m4, m5, m6⟩ := hM'
              refine ⟨m1, m2, ?_, m4, m5, m6⟩
              intro m hm
              rcases List.mem_cons.mp hm with rfl | hm
              · unfold smm
                rw [if_pos hk]
                simp only
                refine ⟨by omega, fun k2 hk2 => ?_⟩
                rw [hsing k k2 hs hk2, hee]
                exact hv.symm
              · exact m3 m hm
          · split <;> exact e2
theorem sld_ok (hsing : ∀ k k', sing (reg k) = true → reg k' = reg k → k' = k) (hG : sG reg gG h) (hM : sMt reg gv ρ ρ0 S loc stk h) {k : Nat} (hk : reg k < 1000) {e v : sE} (he : 0 ≤ sv ρ e) (hl : sld sing gG S (reg k) e = some (v, S')) : ∃ ρ', sMt reg gv ρ' ρ0 S' loc stk h ∧ (h.1 k (sv ρ e).toNat).toInt = sv ρ' v ∧ S'.2.1 = S.2.1 := by
  obtain ⟨ρ', a, b, c, -⟩ := sldE_ok hsing hG hM hk he hl
  exact ⟨ρ', a, b, c⟩
theorem sov_no {d : sD} {r : Nat} {a b : Int} (hn : sov d r a b = false) {z : Nat × Int × Int} (hz : z ∈ d) (h1 : z.1 = r) {i : Int} (ha : a ≤ i) (hb : i ≤ b) : ¬ (z.2.1 ≤ i ∧ i ≤ z.2.2) := by
  intro q
  have : sov d r a b = true := by
    unfold sov
    refine List.any_eq_true.mpr ⟨z, hz, ?_⟩
    simp only [Bool.and_eq_true, decide_eq_true_eq]
    exact ⟨h1, by omega, by omega⟩
  rw [hn] at this
  cases this
theorem sstr_ok (hsing : ∀ k k', sing (reg k) = true → reg k' = reg k → k' = k) (hgv : sGv reg gu gv) {md : sD} {h0 : zH} (hG : sG reg gG h) (hF : sF reg md h0 h) (hM : sMt reg gv ρ ρ0 S loc stk h) {k : Nat} (hk : reg k < 1000) {e v : sE} {x : Int32} (he : 0 ≤ sv ρ e) (hx : x.toInt = sv ρ v) (hl : sstr sing gG gu md S (reg k) e v = some S') : sMt reg gv ρ ρ0 S' loc stk (zs h k (sv ρ e).toNat x) ∧ sG reg gG (zs h k (sv ρ e).toNat x) ∧ sF reg md h0 (zs h k (sv ρ e).toNat x) ∧ S'.2.1 = S.2.1 := by
  unfold sstr at hl
  cases ha : sLb S.2.2.2.1 e with
  | none => rw [ha] at hl; cases hl
  | some a =>
    cases hb : sUb S.2.2.2.1 e with
    | none => rw [ha, hb] at hl; cases hl
    | some b =>
      rw [ha, hb] at hl
      simp only at hl
      split at hl
      case isFalse => cases hl
      case isTrue hc =>
        cases hl
        rw [Bool.and_eq_true, List.all_eq_true, List.any_eq_true] at hc
        obtain ⟨c1, z0, hz0, c2⟩ := hc
        simp only [Bool.and_eq_true, decide_eq_true_eq] at c2
        have h1 := sLb_le hM.2.2.2.1 ha
        have h2 := sUb_le hM.2.2.2.1 hb
        have hval : ∀ k2 i, (zs h k (sv ρ e).toNat x).1 k2 i = if k2 = k then (if i = (sv ρ e).toNat then x else h.1 k2 i) else h.1 k2 i := fun _ _ => rfl
        refine ⟨?_, ?_, ?_, rfl⟩
        · obtain ⟨m1, m2, m3, m4, m5, m6⟩ := hM
          refine ⟨m1, m2, ?_, m4, m5, m6⟩
          have hold : ∀ m ∈ sk1 gu S (reg k) e a b, smm reg gv ρ (zs h k (sv ρ e).toNat x) m := by
            intro m hm
            unfold sk1 at hm
            rw [List.mem_filter] at hm
            obtain ⟨hm, hp⟩ := hm
            have q := m3 m hm
            unfold smm at q ⊢
            by_cases hr : m.1 < 1000
            · rw [if_pos hr] at q hp ⊢
              refine ⟨q.1, fun k2 hk2 => ?_⟩
              rw [hval]
              by_cases hkk : k2 = k
              · rw [if_pos hkk]
                subst hkk
                rcases Bool.or_eq_true_iff.mp hp with hp | hp
                · simp only [Bool.not_eq_true', decide_eq_false_iff_not] at hp
                  exact absurd hk2.symm hp
                · have := sap_ne (reg := reg) (gv := gv) (ρ := ρ) (ρ0 := ρ0) (S := S) (loc := loc) (stk := stk) (h := h) ⟨m1, m2, m3, m4, m5, m6⟩ hp
                  rw [if_neg (by have := q.1; omega)]
                  exact q.2 k2 hk2
              · rw [if_neg hkk]
                exact q.2 k2 hk2
            · rw [if_neg hr] at q hp ⊢
              simp only [Bool.not_eq_true'] at hp
              rw [← q]
              refine hgv _ _ _ (fun k2 i hz => ?_)
              obtain ⟨z, hz, hz1, hz2⟩ := hz
              rw [hval]
              by_cases hkk : k2 = k
              · rw [if_pos hkk]
                subst hkk
                by_cases hi : i = (sv ρ e).toNat
                · exact absurd hz2 (sov_no hp hz hz1.symm (by omega) (by omega))
                · rw [if_neg hi]
              · rw [if_neg hkk]
          show ∀ m ∈ (if sing (reg k) = true then _ else _), _
          split
          case isFalse => exact hold
          case isTrue hs =>
            intro m hm
            rcases List.mem_cons.mp hm with rfl | hm
            · unfold smm
              rw [if_pos hk]
              simp only
              refine ⟨he, fun k2 hk2 => ?_⟩
              rw [hval, if_pos (hsing k k2 hs hk2), if_pos rfl]
              exact hx
            · exact hold m hm
        · intro k2 z hz i hi1 hi2
          rw [hval]
          by_cases hkk : k2 = k
          · rw [if_pos hkk]
            subst hkk
            by_cases hi : i = (sv ρ e).toNat
            · rw [if_pos hi]
              have := c1 z hz
              simp only [Bool.or_eq_true, Bool.and_eq_true, decide_eq_true_eq] at this
              rcases this with q | q | ⟨q1, q2⟩
              · omega
              · omega
              · have p1 := spr_le hM q1
                have p2 := spr_le hM q2
                rw [sac_v] at p1
                rw [sac_v, sng_v] at p2
                omega
            · rw [if_neg hi]
              exact hG k2 z hz i hi1 hi2
          · rw [if_neg hkk]
            exact hG k2 z hz i hi1 hi2
        · intro k2 i hne
          rw [hval] at hne
          by_cases hkk : k2 = k
          · rw [if_pos hkk] at hne
            by_cases hi : i = (sv ρ e).toNat
            · exact ⟨z0, hz0, by rw [hkk]; exact c2.1.symm, by omega, by omega⟩
            · rw [if_neg hi] at hne
              exact hF k2 i hne
          · rw [if_neg hkk] at hne
            exact hF k2 i hne
theorem skl_ok (hgv : sGv reg gu gv) {md : sD} {h' : zH} (hF : sF reg md h h') (hM : sMt reg gv ρ ρ0 S loc stk h) : sMt reg gv ρ ρ0 (skl gu md S) loc stk h' := by
  obtain ⟨m1, m2, m3, m4, m5, m6⟩ := hM
  refine ⟨m1, m2, ?_, m4, m5, m6⟩
  intro m hm
  have hm : m ∈ S.2.2.1.filter _ := hm
  rw [List.mem_filter] at hm
  obtain ⟨hm, hp⟩ := hm
  rw [List.all_eq_true] at hp
  have q := m3 m hm
  unfold smm at q ⊢
  by_cases hr : m.1 < 1000
  · rw [if_pos hr] at q ⊢
    refine ⟨q.1, fun k2 hk2 => ?_⟩
    have e1 : h'.1 k2 (sv ρ m.2.1).toNat = h.1 k2 (sv ρ m.2.1).toNat := by
      apply Decidable.byContradiction
      intro hne
      obtain ⟨z, hz, z1, z2, z3⟩ := hF k2 _ hne
      have := hp z hz
      rw [if_pos hr, Bool.or_eq_true_iff] at this
      rcases this with this | this
      · simp only [Bool.not_eq_true', decide_eq_false_iff_not] at this
        exact this (hk2.symm.trans z1)
      · cases ha : sLb S.2.2.2.1 m.2.1 with
        | none => rw [ha] at this; cases this
        | some a =>
          cases hb : sUb S.2.2.2.1 m.2.1 with
          | none => rw [ha, hb] at this; cases this
          | some b =>
            rw [ha, hb] at this
            simp only [Bool.or_eq_true, decide_eq_true_eq] at this
            have l1 := sLb_le m4 ha
            have l2 := sUb_le m4 hb
            have := q.1
            omega
    rw [e1]
    exact q.2 k2 hk2
  · rw [if_neg hr] at q ⊢
    rw [← q]
    refine hgv _ _ _ (fun k2 i hz => ?_)
    obtain ⟨z, hz, hz1, hz2⟩ := hz
    apply Decidable.byContradiction
    intro hne
    obtain ⟨y, hy, y1, y2, y3⟩ := hF k2 i hne
    have := hp y hy
    rw [if_neg hr] at this
    simp only [Bool.not_eq_true'] at this
    exact sov_no this hz (hz1.symm.trans y1) y2 y3 hz2
end SMEM2
