/-! a label's state by parts -/
noncomputable def sspl (e : sE) : List Int → sS → List sS
  | [], S => [S]
  | c :: l, S => if spr S (sac e (1 - c)) = true then (sas S (sac e (1 - c))).toList else if spr S (sac (sng e) c) = true then (match sas S (sac (sng e) c) with
      | some T => sspl e l T
      | none => []) else (sas S (sac e (1 - c))).toList ++ (match sas S (sac (sng e) c) with
      | some T => sspl e l T
      | none => [])
noncomputable def ssps : List (sE × List Int) → List sS → List sS
  | [], L => L
  | p :: r, L => ssps r (L.flatMap (sspl p.1 p.2))
section SSPL
variable {reg : Nat → Nat} {gv : Nat → zH → Int} {ρ ρ0 : Nat → Int} {loc : zL} {stk : List zV} {h : zH}
theorem sspl_ok (e : sE) : ∀ (l : List Int) {S : sS}, sMt reg gv ρ ρ0 S loc stk h → ∃ T ∈ sspl e l S, sMt reg gv ρ ρ0 T loc stk h
  | [], S, hM => ⟨S, List.mem_singleton.mpr rfl, hM⟩
  | c :: l, S, hM => by
    have hlo : sv ρ e ≤ c - 1 → ∃ T, sas S (sac e (1 - c)) = some T ∧ sMt reg gv ρ ρ0 T loc stk h := by
      intro hv
      obtain ⟨T, e1, h1, -⟩ := sas_ok hM (c := sac e (1 - c)) (by rw [sac_v]; omega)
      exact ⟨T, e1, h1⟩
    have hhi : c ≤ sv ρ e → ∃ T, sas S (sac (sng e) c) = some T ∧ sMt reg gv ρ ρ0 T loc stk h := by
      intro hv
      obtain ⟨T, e1, h1, -⟩ := sas_ok hM (c := sac (sng e) c) (by rw [sac_v, sng_v]; omega)
      exact ⟨T, e1, h1⟩
    unfold sspl
    split
    case isTrue hq =>
      have := spr_le hM hq
      rw [sac_v] at this
      obtain ⟨T, e1, h1⟩ := hlo (by omega)
      exact ⟨T, by rw [e1]; exact List.mem_singleton.mpr rfl, h1⟩
    case isFalse =>
      split
      case isTrue hq =>
        have := spr_le hM hq
        rw [sac_v, sng_v] at this
        obtain ⟨T, e1, h1⟩ := hhi (by omega)
        rw [e1]
        exact sspl_ok e l h1
      case isFalse =>
        by_cases hv : sv ρ e ≤ c - 1
        · obtain ⟨T, e1, h1⟩ := hlo hv
          exact ⟨T, List.mem_append_left _ (by rw [e1]; exact List.mem_singleton.mpr rfl), h1⟩
        · obtain ⟨T, e1, h1⟩ := hhi (by omega)
          obtain ⟨T2, h2, h3⟩ := sspl_ok e l h1
          exact ⟨T2, List.mem_append_right _ (by rw [e1]; exact h2), h3⟩
theorem ssps_ok : ∀ (r : List (sE × List Int)) {L : List sS}, (∃ T ∈ L, sMt reg gv ρ ρ0 T loc stk h) → ∃ T ∈ ssps r L, sMt reg gv ρ ρ0 T loc stk h
  | [], L, hL => hL
  | p :: r, L, ⟨T, hT, hM⟩ => by
    obtain ⟨T2, h2, h3⟩ := sspl_ok p.1 p.2 hM
    exact ssps_ok r ⟨T2, List.mem_flatMap.mpr ⟨T, hT, h2⟩, h3⟩
end SSPL
section SMETH2
variable {tab : Nat → (Nat × List Nat) ⊕ (Nat × Nat × List Nat)} {pI : Nat → Nat → Option Instr} {mL : Nat → Nat} {mR : Nat → Option FieldType} {fld : Nat → Nat → Option (Nat × Nat × Nat)} {kI : Nat → Nat → Option Int32} {kL : Nat → Nat → Option Int64} {gst : Nat → Nat → Option zV} {ldS fldS : Nat → Nat → Option Nat} {acp : Nat → Nat → Bool} {cal : Nat → Nat → Option (Nat × Nat × Nat)}
variable {reg : Nat → Nat} {rin : Nat → (Nat × List Nat) ⊕ (Nat × Nat × List Nat)} {sing : Nat → Bool} {gG : Nat → List (Nat × Nat × Int × Int)} {gu : Nat → sD} {gv : Nat → zH → Int}
/-- all the places' ways are well, by parts: what is told of the method holds -/
theorem smeth2 (hcomp : ∀ k, rin (reg k) = smT reg (tab k)) (hsing : ∀ k k', sing (reg k) = true → reg k' = reg k → k' = k) (hcell : ∀ r, sing r = true → ∃ k, reg k = r) (hr : ∀ k, reg k < 1000) (hgv : sGv reg gu gv) {labs : Nat → List sA} {Qs : List sQ} {Q : sQ} (hQs : ∀ Q ∈ Qs, sSum tab pI mL mR fld kI kL gst ldS fldS acp cal reg gG gv Q) {F : Nat} (h0 : Q.2.1 ∈ labs 0)
    (hl : ∀ pc A, A ∈ labs pc → ∃ sp : List (sE × List Int), ∀ S ∈ ssps sp [sAs A], sseg pI mL mR fld kI kL gst ldS fldS acp cal reg rin sing gG gu labs Qs Q.2.2.2.1 Q.2.2.2.2 Q.2.1.2.1.length Q.2.2.1 Q.1 F pc true S = true) : sSum tab pI mL mR fld kI kL gst ldS fldS acp cal reg gG gv Q := by
  intro args h ρ ρ0 hG hM d hd
  have key : ∀ (k : Nat) (pc : Nat) (A : sA), A ∈ labs pc → ∀ (loc : zL) (h1 : zH) (ρ ρ0 : Nat → Int), (ρ0 0).toNat ≤ k → sMt reg gv ρ ρ0 (sAs A) loc [] h1 → sG reg gG h1 → sF reg Q.2.2.2.1 h h1 → ∃ m r h', zrun tab pI mL mR fld kI kL gst ldS fldS acp cal m d Q.1 pc loc [] h1 = some (r, h') ∧ sG reg gG h' ∧ sF reg Q.2.2.2.1 h h' ∧ ∃ X ∈ Q.2.2.1, sEx reg gv Q.2.1.2.1.length X ρ0 r h' := by
    intro k
    induction k with
    | zero =>
      intro pc A hA loc h1 ρ ρ0 hk hM hG hF
      obtain ⟨sp, hsp⟩ := hl pc A hA
      obtain ⟨T, hT, hMT⟩ := ssps_ok sp ⟨_, List.mem_singleton.mpr rfl, hM⟩
      refine sseg_ok hcomp hsing hcell hr hgv hd hQs F pc true T loc [] h1 ρ ρ0 (hsp T hT) hMT hG hF ?_
      intro pc2 A2 hA2 loc2 h2 ρ2 ρ0' e1 e2 e3
      omega
    | succ k ih =>
      intro pc A hA loc h1 ρ ρ0 hk hM hG hF
      obtain ⟨sp, hsp⟩ := hl pc A hA
      obtain ⟨T, hT, hMT⟩ := ssps_ok sp ⟨_, List.mem_singleton.mpr rfl, hM⟩
      refine sseg_ok hcomp hsing hcell hr hgv hd hQs F pc true T loc [] h1 ρ ρ0 (hsp T hT) hMT hG hF ?_
      intro pc2 A2 hA2 loc2 h2 ρ2 ρ0' e1 e2 e3 hM2 hG2 hF2
      obtain ⟨m, r, h', r1, r2, r3, X, hX, r4⟩ := ih pc2 A2 hA2 loc2 h2 ρ2 ρ0' (by omega) hM2 hG2 hF2
      exact ⟨m, r, h', r1, r2, r3, X, hX, sEx_congr e1 r4⟩
  exact key _ 0 Q.2.1 h0 (zent 0 args) h ρ ρ0 (Nat.le_refl _) hM hG (fun _ _ hne => absurd rfl hne)
end SMETH2
