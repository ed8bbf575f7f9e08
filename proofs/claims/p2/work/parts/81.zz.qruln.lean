/-! rules of Q with new variables -/
section QRULN
variable {gv : Nat → Int → Int → zH → Prop}
/-- values: the old ones, then new ones -/
noncomputable def qext (n : Nat) (ρ : Nat → Int) (nv : List Int) (j : Nat) : Int := if j < n then ρ j else nv.getD (j - n) 0
theorem qext_lt {n : Nat} {ρ : Nat → Int} {nv : List Int} {j : Nat} (h : j < n) : qext n ρ nv j = ρ j := if_pos h
theorem qext_ge {n : Nat} {ρ : Nat → Int} {nv : List Int} (k : Nat) : qext n ρ nv (n + k) = nv.getD k 0 := by
  unfold qext
  rw [if_neg (by omega), Nat.add_sub_cancel_left]
theorem qruln {Q : sQ} (he : Q.2.1.2.2.2.2.1 = (List.range Q.2.1.2.1.length).map (fun j => (j, j))) (hx : ∀ (h : zH) (ρ : Nat → Int), sG pReg qG h → (∀ m ∈ svp 0 Q.2.1.2.1, smmQ pReg gv ρ h m) → sOk Q.2.1.2.2.1 ρ → (∀ c ∈ Q.2.1.2.2.2.1, sv ρ c ≤ 0) → ∃ X ∈ Q.2.2.1, ∃ nv : List Int, X.1 = none ∧ (∀ k b, X.2.2.1[k]? = some b → b.1 ≤ nv.getD k 0 ∧ nv.getD k 0 ≤ b.2) ∧ (∀ c ∈ X.2.2.2.1, sv (qext Q.2.1.2.1.length ρ nv) c ≤ 0) ∧ ∀ m ∈ X.2.1, smmQ pReg gv (qext Q.2.1.2.1.length ρ nv) h m) : pRulQ pReg qG gv Q := by
  intro loc h ρ ρ0 hG hM
  obtain ⟨m1, m2, m3, m4, m5, m6⟩ := hM
  obtain ⟨X, hX, nv, x1, x2, x3, x4⟩ := hx h ρ hG m3 m4 m5
  refine ⟨X, hX, qext Q.2.1.2.1.length ρ nv, fun j hj => ?_, ?_, x3, x4, ?_⟩
  · rw [qext_lt hj]
    have hmem : (j + 1, sY j) ∈ (sAs Q.2.1).2.2.2.2.2 := by
      show (j + 1, sY j) ∈ (0, Q.2.1.2.2.2.2.2) :: Q.2.1.2.2.2.2.1.map (fun p => (p.1 + 1, sY p.2))
      refine List.mem_cons_of_mem _ (List.mem_map.mpr ⟨(j, j), ?_, rfl⟩)
      rw [he]
      exact List.mem_map.mpr ⟨j, List.mem_range.mpr hj, rfl⟩
    have := m6 _ hmem
    rw [sY_v] at this
    exact this.symm
  · intro k b hb
    rw [qext_ge]
    exact x2 k b hb
  · rw [x1]
    exact trivial
/-- a told fact of the rule's variables, by its place among them -/
theorem qok {bs : List (Int × Int)} {ρ : Nat → Int} (h : sOk bs ρ) (j : Nat) {a b : Int} (e : bs[j]? = some (a, b)) : a ≤ ρ j ∧ ρ j ≤ b := h j (a, b) e
end QRULN
