/-! ways on expressions, to an end of any kind -/
section SSEGP
variable {tab : Nat → (Nat × List Nat) ⊕ (Nat × Nat × List Nat)} {pI : Nat → Nat → Option Instr} {mL : Nat → Nat} {mR : Nat → Option FieldType} {fld : Nat → Nat → Option (Nat × Nat × Nat)} {kI : Nat → Nat → Option Int32} {kL : Nat → Nat → Option Int64} {gst : Nat → Nat → Option zV} {ldS fldS : Nat → Nat → Option Nat} {acp : Nat → Nat → Bool} {cal : Nat → Nat → Option (Nat × Nat × Nat)}
variable {reg : Nat → Nat} {rin : Nat → (Nat × List Nat) ⊕ (Nat × Nat × List Nat)} {sing : Nat → Bool} {gG : Nat → List (Nat × Nat × Int × Int)} {gu : Nat → sD} {gv : Nat → zH → Int} {ρ ρ0 : Nat → Int} {S : sS} {loc : zL} {stk : List zV} {h h0 : zH}
theorem sseg_okP (hcomp : ∀ k, rin (reg k) = smT reg (tab k)) (hsing : ∀ k k', sing (reg k) = true → reg k' = reg k → k' = k) (hcell : ∀ r, sing r = true → ∃ k, reg k = r) (hr : ∀ k, reg k < 1000) (hgv : sGv reg gu gv) {labs : Nat → List sA} {Qs : List sQ} {md : sD} {dep n : Nat} {Xs : List sX} {mid d : Nat} (hd : dep ≤ d) (hQs : ∀ Q ∈ Qs, sSum tab pI mL mR fld kI kL gst ldS fldS acp cal reg gG gv Q) {h0 : zH} {P : Option zV → zH → Prop} :
    ∀ (f pc : Nat) (first : Bool) (S : sS) (loc : zL) (stk : List zV) (h : zH) (ρ ρ0 : Nat → Int), sseg pI mL mR fld kI kL gst ldS fldS acp cal reg rin sing gG gu labs Qs md dep n Xs mid f pc first S = true → sMt reg gv ρ ρ0 S loc stk h → sG reg gG h → sF reg md h0 h →
    (∀ pc A, A ∈ labs pc → ∀ (loc : zL) (h : zH) (ρ ρ0' : Nat → Int), (∀ j, ρ0' (j + 1) = ρ0 (j + 1)) → 0 ≤ ρ0' 0 → ρ0' 0 < ρ0 0 → sMt reg gv ρ ρ0' (sAs A) loc [] h → sG reg gG h → sF reg md h0 h → ∃ m r h', zrun tab pI mL mR fld kI kL gst ldS fldS acp cal m d mid pc loc [] h = some (r, h') ∧ P r h') →
    (∀ r h', sG reg gG h' → sF reg md h0 h' → (∃ X ∈ Xs, sEx reg gv n X ρ0 r h') → P r h') → ∃ m r h', zrun tab pI mL mR fld kI kL gst ldS fldS acp cal m d mid pc loc stk h = some (r, h') ∧ P r h'
  | 0, _, _, _, _, _, _, _, _, hs, _, _, _, _, _ => by cases hs
  | f + 1, pc, first, S, loc, stk, h, ρ, ρ0, hs, hM, hG, hF, IH, hX0 => by
    unfold sseg at hs
    split at hs
    case isTrue hlab =>
      rw [Bool.and_eq_true, List.isEmpty_iff] at hs
      obtain ⟨A, hA, hA2⟩ := List.any_eq_true.mp hs.2
      have hst := hM.2.1
      rw [hs.1] at hst
      have hstk : stk = [] := List.eq_nil_of_length_eq_zero (by have := sms_len hst; simpa using this)
      subst hstk
      obtain ⟨ρ', ρ0', a1, a2, a3, a4⟩ := sarr_ok hsing hcell hG hM hA2
      exact IH pc A hA loc h ρ' ρ0' a1 a2 a3 a4 hG hF
    case isFalse =>
      cases hi : pI mid pc with
      | none => simp only [hi] at hs; cases hs
      | some i =>
        simp only [hi] at hs
        split at hs
        case h_1 hk =>
          cases hst : sstp fld kI kL gst ldS fldS acp reg rin sing gG gu mid md i pc S with
          | none => simp only [hst] at hs; cases hs
          | some L =>
            simp only [hst] at hs
            obtain ⟨q, q1, q2, q3, z, hz, ρ', q4, q5⟩ := sstp_ok hcomp hsing hr hgv hG hF hM hst
            have hz2 := (List.all_eq_true.mp hs) z hz
            rw [← q4] at hz2
            obtain ⟨m, r, h', r1, r2⟩ := sseg_okP hcomp hsing hcell hr hgv hd hQs f q.1 false z.2 q.2.1 q.2.2.1 q.2.2.2 ρ' ρ0 hz2 q5 q2 q3 IH hX0
            refine ⟨m + 1, r, h', ?_, r2⟩
            obtain ⟨k1, k2⟩ := skd0 (tab := tab) (mL := mL) (mR := mR) (stk := stk) hk
            rw [zrun]
            simp only [hi, k1, k2, q1]
            exact r1
        case h_2 hk =>
          cases hc : scl cal mid i with
          | none => simp only [hc] at hs; cases hs
          | some z =>
            simp only [hc] at hs
            cases hfs : Qs.findSome? (fun Q => if (smo md Q.2.2.2.1 && decide (Q.2.2.2.2 < dep)) = true then scal sing gG gu rin mL S z.1 z.2.1 z.2.2 Q else none) with
            | none => simp only [hfs] at hs; cases hs
            | some L =>
              simp only [hfs] at hs
              obtain ⟨Q, hQ, hQ2⟩ := List.exists_of_findSome?_eq_some hfs
              split at hQ2
              case isFalse => cases hQ2
              case isTrue hmo =>
                rw [Bool.and_eq_true, decide_eq_true_eq] at hmo
                obtain ⟨d', rfl⟩ : ∃ d', d = d' + 1 := ⟨d - 1, by omega⟩
                obtain ⟨p1, p2, p3, p4, m1, r1, h1, u1, u2, u3, T, hT, ρ', u4⟩ := scal_ok hcomp hsing hcell hgv hG hM (d := d') (hQs Q hQ) (by omega) hQ2
                have hT2 := (List.all_eq_true.mp hs) T hT
                obtain ⟨m, r, h', v1, v2⟩ := sseg_okP hcomp hsing hcell hr hgv hd hQs f (pc + 3) false T loc (r1.toList ++ stk.drop z.2.1) h1 ρ' ρ0 hT2 u4 u2 (smo_ok hmo.1 hF u3) IH hX0
                have hcl : zcl tab mL cal mid i stk = some (z.1, (stk.take z.2.1).reverse, stk.drop z.2.1) := by
                  cases i
                  case invokevirtual idx =>
                    simp only [scl] at hc
                    cases hca : cal mid idx with
                    | none => simp only [hca] at hc; cases hc
                    | some y =>
                      simp only [hca] at hc
                      split at hc
                      case isFalse => cases hc
                      case isTrue hlt =>
                        cases hc
                        obtain ⟨callee, na, kc⟩ := z
                        simp only [zcl, hca]
                        rw [if_pos]
                        simp only [Bool.and_eq_true, decide_eq_true_eq]
                        simp only at p1 p2 p3 p4 hlt
                        rcases p4 with p4 | p4
                        · omega
                        · exact ⟨⟨⟨⟨hlt, p1⟩, p2⟩, p3⟩, p4.2⟩
                  case invokestatic idx =>
                    simp only [scl] at hc
                    cases hca : cal mid idx with
                    | none => simp only [hca] at hc; cases hc
                    | some y =>
                      simp only [hca] at hc
                      split at hc
                      case isFalse => cases hc
                      case isTrue hlt =>
                        cases hc
                        obtain ⟨callee, na, kc⟩ := z
                        simp only [zcl, hca]
                        rw [if_pos]
                        simp only [Bool.and_eq_true, decide_eq_true_eq]
                        exact ⟨⟨⟨hlt, p1⟩, p2⟩, p3⟩
                  all_goals cases hc
                refine ⟨max m m1 + 1, r, h', ?_, v2⟩
                rw [zrun]
                simp only [hi, hcl]
                rw [zrun_le (Nat.le_max_right m m1) u1]
                exact zrun_le (Nat.le_max_left m m1) v1
        case h_3 =>
          rw [Bool.and_eq_true] at hs
          obtain ⟨X, hX, hX2⟩ := List.any_eq_true.mp hs.2
          obtain ⟨x1, x2⟩ := sxr_ok hsing hcell hG hM hX2
          have hrk := hs.1
          have hze : zcl tab mL cal mid i stk = none ∧ zend (mR mid) i stk = some stk.head? := by
            rcases srk_el hrk with ⟨rfl, hret, e, hst⟩ | ⟨rfl, hret, e, hst, hq⟩ | ⟨rfl, hret, e, hst, hq⟩ | ⟨rfl, hret, e, hst⟩ | ⟨rfl, hret, hst⟩
            · rcases x2 with ⟨x, e', rfl, q1, q2⟩ | ⟨y, e', rfl, q1⟩ | ⟨rfl, q1⟩
              · exact ⟨rfl, by rw [hret]; rfl⟩
              · rw [q1] at hst; cases hst
              · rw [q1] at hst; cases hst
            · rcases x2 with ⟨x, e', rfl, q1, q2⟩ | ⟨y, e', rfl, q1⟩ | ⟨rfl, q1⟩
              · rw [q1] at hst
                cases hst
                have := sb01_ok hM hq q2
                refine ⟨rfl, ?_⟩
                rw [hret]
                show (if x = 0 ∨ x = 1 then _ else _) = _
                rw [if_pos this]
                rfl
              · rw [q1] at hst; cases hst
              · rw [q1] at hst; cases hst
            · rcases x2 with ⟨x, e', rfl, q1, q2⟩ | ⟨y, e', rfl, q1⟩ | ⟨rfl, q1⟩
              · rw [q1] at hst
                cases hst
                rw [Bool.and_eq_true] at hq
                have p1 := spr_le hM hq.1
                have p2 := spr_le hM hq.2
                rw [sng_v] at p2
                have : x = 0 := Int32.toInt_inj.mp (by rw [q2]; show _ = (0 : Int); omega)
                refine ⟨rfl, ?_⟩
                rw [hret]
                show (if x = 0 then _ else _) = _
                rw [if_pos this]
                rfl
              · rw [q1] at hst; cases hst
              · rw [q1] at hst; cases hst
            · rcases x2 with ⟨x, e', rfl, q1, q2⟩ | ⟨y, e', rfl, q1⟩ | ⟨rfl, q1⟩
              · rw [q1] at hst; cases hst
              · exact ⟨rfl, by rw [hret]; rfl⟩
              · rw [q1] at hst; cases hst
            · rcases x2 with ⟨x, e', rfl, q1, q2⟩ | ⟨y, e', rfl, q1⟩ | ⟨rfl, q1⟩
              · rw [q1] at hst; cases hst
              · rw [q1] at hst; cases hst
              · exact ⟨rfl, by rw [hret]; rfl⟩
          refine ⟨1, stk.head?, h, ?_, hX0 _ _ hG hF ⟨X, hX, x1⟩⟩
          rw [zrun]
          simp only [hi, hze.1, hze.2]
end SSEGP
section SMETH3
variable {tab : Nat → (Nat × List Nat) ⊕ (Nat × Nat × List Nat)} {pI : Nat → Nat → Option Instr} {mL : Nat → Nat} {mR : Nat → Option FieldType} {fld : Nat → Nat → Option (Nat × Nat × Nat)} {kI : Nat → Nat → Option Int32} {kL : Nat → Nat → Option Int64} {gst : Nat → Nat → Option zV} {ldS fldS : Nat → Nat → Option Nat} {acp : Nat → Nat → Bool} {cal : Nat → Nat → Option (Nat × Nat × Nat)}
variable {reg : Nat → Nat} {rin : Nat → (Nat × List Nat) ⊕ (Nat × Nat × List Nat)} {sing : Nat → Bool} {gG : Nat → List (Nat × Nat × Int × Int)} {gu : Nat → sD} {gv : Nat → zH → Int}
/-- a method's ways with a cut: what comes to the cut goes on by K -/
theorem smeth3 (hcomp : ∀ k, rin (reg k) = smT reg (tab k)) (hsing : ∀ k k', sing (reg k) = true → reg k' = reg k → k' = k) (hcell : ∀ r, sing r = true → ∃ k, reg k = r) (hr : ∀ k, reg k < 1000) (hgv : sGv reg gu gv) {labs : Nat → List sA} {Qs : List sQ} {Q : sQ} (hQs : ∀ Q ∈ Qs, sSum tab pI mL mR fld kI kL gst ldS fldS acp cal reg gG gv Q) {F cut : Nat} {P : Option zV → zH → Prop}
    (hl : ∀ pc A, A ∈ labs pc → pc ≠ cut → ∃ sp : List (sE × List Int), ∀ S ∈ ssps sp [sAs A], sseg pI mL mR fld kI kL gst ldS fldS acp cal reg rin sing gG gu labs Qs Q.2.2.2.1 Q.2.2.2.2 Q.2.1.2.1.length Q.2.2.1 Q.1 F pc true S = true)
    {h : zH} {ρ0 : Nat → Int} {d : Nat} (hd : Q.2.2.2.2 ≤ d)
    (hX : ∀ r h', sG reg gG h' → sF reg Q.2.2.2.1 h h' → (∃ X ∈ Q.2.2.1, sEx reg gv Q.2.1.2.1.length X ρ0 r h') → P r h')
    (hK : ∀ A, A ∈ labs cut → ∀ (loc : zL) (h1 : zH) (ρ ρ1 : Nat → Int), (∀ j, ρ1 (j + 1) = ρ0 (j + 1)) → sMt reg gv ρ ρ1 (sAs A) loc [] h1 → sG reg gG h1 → sF reg Q.2.2.2.1 h h1 → ∃ m r h', zrun tab pI mL mR fld kI kL gst ldS fldS acp cal m d Q.1 cut loc [] h1 = some (r, h') ∧ P r h') :
    ∀ (k : Nat) (pc : Nat) (A : sA), A ∈ labs pc → ∀ (loc : zL) (h1 : zH) (ρ ρ1 : Nat → Int), (ρ1 0).toNat ≤ k → (∀ j, ρ1 (j + 1) = ρ0 (j + 1)) → sMt reg gv ρ ρ1 (sAs A) loc [] h1 → sG reg gG h1 → sF reg Q.2.2.2.1 h h1 → ∃ m r h', zrun tab pI mL mR fld kI kL gst ldS fldS acp cal m d Q.1 pc loc [] h1 = some (r, h') ∧ P r h' := by
  have hX1 : ∀ ρ1 : Nat → Int, (∀ j, ρ1 (j + 1) = ρ0 (j + 1)) → ∀ r h', sG reg gG h' → sF reg Q.2.2.2.1 h h' → (∃ X ∈ Q.2.2.1, sEx reg gv Q.2.1.2.1.length X ρ1 r h') → P r h' := by
    intro ρ1 e r h' a b ⟨X, x1, x2⟩
    exact hX r h' a b ⟨X, x1, sEx_congr e x2⟩
  intro k
  induction k with
  | zero =>
    intro pc A hA loc h1 ρ ρ1 hk he hM hG hF
    by_cases hc : pc = cut
    · subst hc
      exact hK A hA loc h1 ρ ρ1 he hM hG hF
    obtain ⟨sp, hsp⟩ := hl pc A hA hc
    obtain ⟨T, hT, hMT⟩ := ssps_ok sp ⟨_, List.mem_singleton.mpr rfl, hM⟩
    refine sseg_okP hcomp hsing hcell hr hgv hd hQs F pc true T loc [] h1 ρ ρ1 (hsp T hT) hMT hG hF ?_ (hX1 ρ1 he)
    intro pc2 A2 hA2 loc2 h2 ρ2 ρ0' e1 e2 e3
    omega
  | succ k ih =>
    intro pc A hA loc h1 ρ ρ1 hk he hM hG hF
    by_cases hc : pc = cut
    · subst hc
      exact hK A hA loc h1 ρ ρ1 he hM hG hF
    obtain ⟨sp, hsp⟩ := hl pc A hA hc
    obtain ⟨T, hT, hMT⟩ := ssps_ok sp ⟨_, List.mem_singleton.mpr rfl, hM⟩
    refine sseg_okP hcomp hsing hcell hr hgv hd hQs F pc true T loc [] h1 ρ ρ1 (hsp T hT) hMT hG hF ?_ (hX1 ρ1 he)
    intro pc2 A2 hA2 loc2 h2 ρ2 ρ0' e1 e2 e3 hM2 hG2 hF2
    exact ih pc2 A2 hA2 loc2 h2 ρ2 ρ0' (by omega) (fun j => (e1 j).trans (he j)) hM2 hG2 hF2
end SMETH3
