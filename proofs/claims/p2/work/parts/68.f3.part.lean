/-! a run cut into pieces -/
section KPA
variable (kPI : Nat → Nat → Option Instr) (mL : Nat → Nat) (kNw : Nat → Nat → Option Nat) (kFl : Nat → Nat → Option (Nat × Nat)) (kDf : Nat → List (Option zV)) (kTy : Nat → Nat → Nat) (kQa kGa : Nat → Nat → Bool) (kCl : Nat → Nat → Option (Nat × Nat × Bool))
/-- m instructions of one method, its calls by their runs -/
noncomputable def kpart (F : Nat) : Nat → Nat → Nat → Nat → zL → List zV → List kC → Option kN
  | 0, _, _, pc, loc, stk, cs => some (pc, loc, stk, cs)
  | m + 1, d, mid, pc, loc, stk, cs => match kPI mid pc with
    | none => none
    | some i => match kcl mL kCl mid i cs.length loc stk with
      | some (callee, na) => if callee = 99 then (if na = 1 then kpart F m d mid (pc + 3) loc (stk.drop 1) cs else none) else (match d with
        | 0 => none
        | d' + 1 => match krunL kPI mL kNw kFl kDf kTy kQa kGa kCl F d' callee 0 (zent 0 (stk.take na).reverse) [] cs with
          | some cs1 => kpart F m (d' + 1) mid (pc + 3) loc (stk.drop na) cs1
          | none => none)
      | none => match i with
        | .return_ => none
        | _ => match kstL kNw kFl kDf kTy kQa kGa mid i pc loc stk cs with
          | some q => kpart F m d mid q.1 q.2.1 q.2.2.1 q.2.2.2
          | none => none
end KPA
section KPO
variable {kPI : Nat → Nat → Option Instr} {mL : Nat → Nat} {kNw : Nat → Nat → Option Nat} {kFl : Nat → Nat → Option (Nat × Nat)} {kDf : Nat → List (Option zV)} {kTy : Nat → Nat → Nat} {kQa kGa : Nat → Nat → Bool} {kCl : Nat → Nat → Option (Nat × Nat × Bool)}
theorem krunL_more : ∀ (n d mid pc : Nat) (loc : zL) (stk : List zV) (cs cs' : List kC) (k : Nat), krunL kPI mL kNw kFl kDf kTy kQa kGa kCl n d mid pc loc stk cs = some cs' → krunL kPI mL kNw kFl kDf kTy kQa kGa kCl (n + k) d mid pc loc stk cs = some cs'
  | 0, _, _, _, _, _, _, _, _, h => by cases h
  | n + 1, d, mid, pc, loc, stk, cs, cs', k, h => by
    rw [show n + 1 + k = (n + k) + 1 by omega]
    unfold krunL at h ⊢
    cases hi : kPI mid pc with
    | none => rw [hi] at h; cases h
    | some i =>
      simp only [hi] at h ⊢
      cases hc : kcl mL kCl mid i cs.length loc stk with
      | some z =>
        obtain ⟨callee, na⟩ := z
        simp only [hc] at h ⊢
        by_cases h99 : callee = 99
        · rw [if_pos h99] at h ⊢
          by_cases h1 : na = 1
          · rw [if_pos h1] at h ⊢
            exact krunL_more n _ _ _ _ _ _ _ k h
          · rw [if_neg h1] at h
            cases h
        · rw [if_neg h99] at h ⊢
          cases d with
          | zero => cases h
          | succ d' =>
            simp only at h ⊢
            cases h1 : krunL kPI mL kNw kFl kDf kTy kQa kGa kCl n d' callee 0 (zent 0 (stk.take na).reverse) [] cs with
            | none => rw [h1] at h; cases h
            | some cs1 =>
              rw [h1] at h
              rw [krunL_more n _ _ _ _ _ _ _ k h1]
              exact krunL_more n _ _ _ _ _ _ _ k h
      | none =>
        simp only [hc] at h ⊢
        split at h
        · exact h
        · cases hk : kstL kNw kFl kDf kTy kQa kGa mid i pc loc stk cs with
          | none => rw [hk] at h; cases h
          | some q =>
            rw [hk] at h
            exact krunL_more n _ _ _ _ _ _ _ k h
theorem kpart_ok {F : Nat} : ∀ (m d mid pc : Nat) (loc : zL) (stk : List zV) (cs : List kC) (c : kN) (n : Nat) (r : List kC), kpart kPI mL kNw kFl kDf kTy kQa kGa kCl F m d mid pc loc stk cs = some c → krunL kPI mL kNw kFl kDf kTy kQa kGa kCl n d mid c.1 c.2.1 c.2.2.1 c.2.2.2 = some r → F ≤ n → krunL kPI mL kNw kFl kDf kTy kQa kGa kCl (n + m) d mid pc loc stk cs = some r
  | 0, _, _, _, _, _, _, c, n, r, h, hr, _ => by
    cases h
    exact hr
  | m + 1, d, mid, pc, loc, stk, cs, c, n, r, h, hr, hF => by
    rw [show n + (m + 1) = (n + m) + 1 by omega]
    unfold kpart at h
    unfold krunL
    cases hi : kPI mid pc with
    | none => rw [hi] at h; cases h
    | some i =>
      simp only [hi] at h ⊢
      cases hc : kcl mL kCl mid i cs.length loc stk with
      | some z =>
        obtain ⟨callee, na⟩ := z
        simp only [hc] at h ⊢
        by_cases h99 : callee = 99
        · rw [if_pos h99] at h ⊢
          by_cases h1 : na = 1
          · rw [if_pos h1] at h ⊢
            exact kpart_ok m _ _ _ _ _ _ c n r h hr hF
          · rw [if_neg h1] at h
            cases h
        · rw [if_neg h99] at h ⊢
          cases d with
          | zero => cases h
          | succ d' =>
            simp only at h ⊢
            cases h1 : krunL kPI mL kNw kFl kDf kTy kQa kGa kCl F d' callee 0 (zent 0 (stk.take na).reverse) [] cs with
            | none => rw [h1] at h; cases h
            | some cs1 =>
              rw [h1] at h
              have h2 := krunL_more F _ _ _ _ _ _ _ (n + m - F) h1
              rw [show F + (n + m - F) = n + m by omega] at h2
              rw [h2]
              exact kpart_ok m _ _ _ _ _ _ c n r h hr hF
      | none =>
        simp only [hc] at h ⊢
        by_cases hr0 : i = .return_
        · subst hr0
          cases h
        · split at h
          case h_1 => exact absurd rfl hr0
          case h_2 =>
            cases hk : kstL kNw kFl kDf kTy kQa kGa mid i pc loc stk cs with
            | none => rw [hk] at h; cases h
            | some q =>
              rw [hk] at h
              split
              case h_1 => exact absurd rfl hr0
              case h_2 => exact kpart_ok m _ _ _ _ _ _ c n r h hr hF
theorem kcall_ok {n d mid pc : Nat} {loc : zL} {stk : List zV} {cs cs1 r : List kC} {i : Instr} {callee na : Nat} (hi : kPI mid pc = some i) (hc : kcl mL kCl mid i cs.length loc stk = some (callee, na)) (h99 : callee ≠ 99) (h1 : krunL kPI mL kNw kFl kDf kTy kQa kGa kCl n d callee 0 (zent 0 (stk.take na).reverse) [] cs = some cs1) (h2 : krunL kPI mL kNw kFl kDf kTy kQa kGa kCl n (d + 1) mid (pc + 3) loc (stk.drop na) cs1 = some r) : krunL kPI mL kNw kFl kDf kTy kQa kGa kCl (n + 1) (d + 1) mid pc loc stk cs = some r := by
  unfold krunL
  simp only [hi, hc]
  rw [if_neg h99, h1]
  exact h2
end KPO
