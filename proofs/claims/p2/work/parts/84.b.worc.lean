/-! the laws' worth: both contracts by hand -/
section QWOR
variable {gv : Nat → Int → Int → zH → Prop}
noncomputable def wIx (a : Nat → Nat) : Nat := a 0 + 32 * a 1 + 512 * a 2 + 8192 * a 3 + 131072 * a 4 + 262144 * a 5
noncomputable def wAb (a : Nat → Nat) : Prop := a 0 ≤ 18 ∧ a 1 ≤ 9 ∧ a 2 ≤ 12 ∧ a 3 ≤ 9 ∧ a 4 ≤ 1 ∧ a 5 ≤ 999
/-- told 62: the ghost is the worth by the class's law that holds -/
noncomputable def wClw (h : zH) : Prop := ∃ (k : Nat) (c : List Int), k < 4 ∧ (h.1 374 5).toInt = (k : Int) ∧ (k : Int) < (h.1 374 4).toInt ∧ (∀ s ∈ c, tkC s) ∧ aAt h (366 + k) 0 c ∧ (h.1 371 k).toInt = (c.length : Int) ∧ c.length ≤ 242 ∧ ∀ a : Nat → Nat, wAb a → (h.1 620 (wIx a)).toInt = cMa (fun j => ((a j : Nat) : Int)) c false []
/-- told 65: by the reference's -/
noncomputable def wMlw (h : zH) : Prop := ∃ (N : Nat) (cl : List (List Int × List Int)), N ≤ 4 ∧ (h.1 440 25).toInt = (N : Int) ∧ (h.1 411 N).toInt = (cl.length : Int) ∧ cl.length ≤ 140 ∧ clAt h N 0 cl ∧ (∀ L : Nat → Int, (∀ j, j < 6 → -1000000 ≤ L j ∧ L j ≤ 1000000) → ∀ z ∈ cl, cOk L z) ∧ ∀ a : Nat → Nat, wAb a → (h.1 620 (wIx a)).toInt = mMa (fun j => ((a j : Nat) : Int)) cl
theorem wAb_b {a : Nat → Nat} (h : wAb a) : ∀ j, j < 6 → -1000000 ≤ ((a j : Nat) : Int) ∧ ((a j : Nat) : Int) ≤ 1000000 := by
  obtain ⟨h0, h1, h2, h3, h4, h5⟩ := h
  intro j hj
  match j, hj with
  | 0, _ => omega
  | 1, _ => omega
  | 2, _ => omega
  | 3, _ => omega
  | 4, _ => omega
  | 5, _ => omega
theorem qt_cWor_ok (h62 : ∀ x y h, gv 62 x y h → wClw h) : qS gv qt_cWor := qhand (by decide +kernel) (fun d m args h ρ r h' hG ha hm hb hc hr => by
  obtain ⟨k, c, hk, e5, e4, hT, hC, hsz, hs2, hW⟩ := h62 _ _ _ (qtl hm 0 (a := 62) rfl (by decide))
  obtain ⟨v, g0, hv⟩ := ha (0, .inr (.inr 54)) List.mem_cons_self
  rw [qobj hv (k := 374) (by decide +kernel) (by decide +kernel)] at g0
  have b1 := qok hb 1 rfl
  have b2 := qok hb 2 rfl
  have b3 := qok hb 3 rfl
  have b4 := qok hb 4 rfl
  have b5 := qok hb 5 rfl
  have b6 := qok hb 6 rfl
  have l0 : (h.1 373 0).toInt = ρ 1 := (qcl hm 1 rfl (by decide) 373 (by decide +kernel) (p := 0) rfl).trans (sY_v _ _)
  have l1 : (h.1 373 1).toInt = ρ 2 := (qcl hm 2 rfl (by decide) 373 (by decide +kernel) (p := 1) rfl).trans (sY_v _ _)
  have l2 : (h.1 373 2).toInt = ρ 3 := (qcl hm 3 rfl (by decide) 373 (by decide +kernel) (p := 2) rfl).trans (sY_v _ _)
  have l3 : (h.1 373 3).toInt = ρ 4 := (qcl hm 4 rfl (by decide) 373 (by decide +kernel) (p := 3) rfl).trans (sY_v _ _)
  have l4 : (h.1 373 4).toInt = ρ 5 := (qcl hm 5 rfl (by decide) 373 (by decide +kernel) (p := 4) rfl).trans (sY_v _ _)
  have l5 : (h.1 373 5).toInt = ρ 6 := (qcl hm 6 rfl (by decide) 373 (by decide +kernel) (p := 5) rfl).trans (sY_v _ _)
  have hA : wAb (fun j => (ρ (j + 1)).toNat) := ⟨by show (ρ 1).toNat ≤ 18; omega, by show (ρ 2).toNat ≤ 9; omega, by show (ρ 3).toNat ≤ 12; omega, by show (ρ 4).toNat ≤ 9; omega, by show (ρ 5).toNat ≤ 1; omega, by show (ρ 6).toNat ≤ 999; omega⟩
  have hL : ∀ j, j < 6 → (h.1 373 j).toInt = (((fun j => (ρ (j + 1)).toNat) j : Nat) : Int) := by
    intro j hj
    match j, hj with
    | 0, _ => rw [l0]; show ρ 1 = ((ρ 1).toNat : Int); omega
    | 1, _ => rw [l1]; show ρ 2 = ((ρ 2).toNat : Int); omega
    | 2, _ => rw [l2]; show ρ 3 = ((ρ 3).toNat : Int); omega
    | 3, _ => rw [l3]; show ρ 4 = ((ρ 4).toNat : Int); omega
    | 4, _ => rw [l4]; show ρ 5 = ((ρ 5).toNat : Int); omega
    | 5, _ => rw [l5]; show ρ 6 = ((ρ 6).toNat : Int); omega
  obtain ⟨r2, h2, q1, q2, q3, q4, q5⟩ := rn_worth_z g0 hk rfl (wAb_b hA) hT e5 e4 hC hsz hs2 hL hr
  cases q1
  have hw : (h.1 620 (wIx (fun j => (ρ (j + 1)).toNat))).toInt = ρ 8 := (qcl hm 8 rfl (by decide) 620 (by decide +kernel) (p := wIx (fun j => (ρ (j + 1)).toNat)) (by
    show 0 + (1 * ρ 1 + (32 * ρ 2 + (512 * ρ 3 + (8192 * ρ 4 + (131072 * ρ 5 + (262144 * ρ 6 + 0)))))) = (((ρ 1).toNat + 32 * (ρ 2).toNat + 512 * (ρ 3).toNat + 8192 * (ρ 4).toNat + 131072 * (ρ 5).toNat + 262144 * (ρ 6).toNat : Nat) : Int)
    omega)).trans (sY_v _ _)
  refine ⟨qsG1 hG q3 (by decide +kernel), qsF1 (n := 64) q3 q5 List.mem_cons_self, _, List.mem_cons_self, rfl, pAll0, pAll0, ?_⟩
  show r2.toInt = _
  rw [q2, ← hW _ hA, hw]
  show ρ 8 = 0 + (1 * ρ 8 + 0)
  omega)
theorem qt_mWor_ok (h65 : ∀ x y h, gv 65 x y h → wMlw h) : qS gv qt_mWor := qhand (by decide +kernel) (fun d m args h ρ r h' hG ha hm hb hc hr => by
  obtain ⟨N, cl, hN, e25, hcl, hi, hC, hO, hW⟩ := h65 _ _ _ (qtl hm 0 (a := 65) rfl (by decide))
  obtain ⟨v, g0, hv⟩ := ha (0, .inr (.inr 120)) List.mem_cons_self
  rw [qobj hv (k := 440) (by decide +kernel) (by decide +kernel)] at g0
  obtain ⟨v1, g1, hv1⟩ := ha (1, .inl (sY 1)) (List.mem_cons_of_mem _ List.mem_cons_self)
  obtain ⟨nn, rfl, hnn⟩ := qint hv1
  have hnn : nn.toInt = ρ 1 := hnn.trans (sY_v _ _)
  have b2 := qok hb 2 rfl
  have b3 := qok hb 3 rfl
  have b4 := qok hb 4 rfl
  have b5 := qok hb 5 rfl
  have b6 := qok hb 6 rfl
  have b7 := qok hb 7 rfl
  have l0 : (h.1 415 0).toInt = ρ 2 := (qcl hm 1 rfl (by decide) 415 (by decide +kernel) (p := 0) rfl).trans (sY_v _ _)
  have l1 : (h.1 415 1).toInt = ρ 3 := (qcl hm 2 rfl (by decide) 415 (by decide +kernel) (p := 1) rfl).trans (sY_v _ _)
  have l2 : (h.1 415 2).toInt = ρ 4 := (qcl hm 3 rfl (by decide) 415 (by decide +kernel) (p := 2) rfl).trans (sY_v _ _)
  have l3 : (h.1 415 3).toInt = ρ 5 := (qcl hm 4 rfl (by decide) 415 (by decide +kernel) (p := 3) rfl).trans (sY_v _ _)
  have l4 : (h.1 415 4).toInt = ρ 6 := (qcl hm 5 rfl (by decide) 415 (by decide +kernel) (p := 4) rfl).trans (sY_v _ _)
  have l5 : (h.1 415 5).toInt = ρ 7 := (qcl hm 6 rfl (by decide) 415 (by decide +kernel) (p := 5) rfl).trans (sY_v _ _)
  have l6 : (h.1 440 25).toInt = ρ 8 := (qcl hm 7 rfl (by decide) 440 (by decide +kernel) (p := 25) rfl).trans (sY_v _ _)
  have c1 : ρ 1 = ρ 8 := by
    have a1 := hc _ List.mem_cons_self
    have a2 := hc _ (List.mem_cons_of_mem _ List.mem_cons_self)
    have a1 : 0 + (1 * ρ 1 + ((-1) * ρ 8 + 0)) ≤ 0 := a1
    have a2 : 0 + ((-1) * ρ 1 + (1 * ρ 8 + 0)) ≤ 0 := a2
    omega
  have hA : wAb (fun j => (ρ (j + 2)).toNat) := ⟨by show (ρ 2).toNat ≤ 18; omega, by show (ρ 3).toNat ≤ 9; omega, by show (ρ 4).toNat ≤ 12; omega, by show (ρ 5).toNat ≤ 9; omega, by show (ρ 6).toNat ≤ 1; omega, by show (ρ 7).toNat ≤ 999; omega⟩
  have hL : ∀ j, j < 6 → (h.1 415 j).toInt = (((fun j => (ρ (j + 2)).toNat) j : Nat) : Int) := by
    intro j hj
    match j, hj with
    | 0, _ => rw [l0]; show ρ 2 = ((ρ 2).toNat : Int); omega
    | 1, _ => rw [l1]; show ρ 3 = ((ρ 3).toNat : Int); omega
    | 2, _ => rw [l2]; show ρ 4 = ((ρ 4).toNat : Int); omega
    | 3, _ => rw [l3]; show ρ 5 = ((ρ 5).toNat : Int); omega
    | 4, _ => rw [l4]; show ρ 6 = ((ρ 6).toNat : Int); omega
    | 5, _ => rw [l5]; show ρ 7 = ((ρ 7).toNat : Int); omega
  obtain ⟨r2, h2, q1, q2, q3, q4, q5⟩ := rn_worthOf_z g0 g1 (wAb_b hA) hN (hO _ (wAb_b hA)) (by omega) hi hcl hC hL hr
  cases q1
  have hw : (h.1 620 (wIx (fun j => (ρ (j + 2)).toNat))).toInt = ρ 9 := (qcl hm 8 rfl (by decide) 620 (by decide +kernel) (p := wIx (fun j => (ρ (j + 2)).toNat)) (by
    show 0 + (1 * ρ 2 + (32 * ρ 3 + (512 * ρ 4 + (8192 * ρ 5 + (131072 * ρ 6 + (262144 * ρ 7 + 0)))))) = (((ρ 2).toNat + 32 * (ρ 3).toNat + 512 * (ρ 4).toNat + 8192 * (ρ 5).toNat + 131072 * (ρ 6).toNat + 262144 * (ρ 7).toNat : Nat) : Int)
    omega)).trans (sY_v _ _)
  refine ⟨qsG1 hG q3 (by decide +kernel), qsF1 (n := 80) q3 q5 List.mem_cons_self, _, List.mem_cons_self, rfl, pAll0, pAll0, ?_⟩
  show r2.toInt = _
  rw [q2, ← hW _ hA, hw]
  show ρ 9 = 0 + (1 * ρ 9 + 0)
  omega)
end QWOR
