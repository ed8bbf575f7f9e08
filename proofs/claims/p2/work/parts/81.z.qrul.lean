/-! rules of Q in general -/
section QRUL
variable {gv : Nat → Int → Int → zH → Prop}
theorem qrul {Q : sQ} (he : Q.2.1.2.2.2.2.1 = (List.range Q.2.1.2.1.length).map (fun j => (j, j))) (hx : ∀ (h : zH) (ρ : Nat → Int), sG pReg qG h → (∀ m ∈ svp 0 Q.2.1.2.1, smmQ pReg gv ρ h m) → sOk Q.2.1.2.2.1 ρ → (∀ c ∈ Q.2.1.2.2.2.1, sv ρ c ≤ 0) → ∃ X ∈ Q.2.2.1, X.1 = none ∧ X.2.2.1 = [] ∧ (∀ c ∈ X.2.2.2.1, sv ρ c ≤ 0) ∧ ∀ m ∈ X.2.1, smmQ pReg gv ρ h m) : pRulQ pReg qG gv Q := by
  intro loc h ρ ρ0 hG hM
  obtain ⟨m1, m2, m3, m4, m5, m6⟩ := hM
  obtain ⟨X, hX, x1, x2, x3, x4⟩ := hx h ρ hG m3 m4 m5
  refine ⟨X, hX, ρ, fun j hj => ?_, ?_, x3, x4, ?_⟩
  · have hmem : (j + 1, sY j) ∈ (sAs Q.2.1).2.2.2.2.2 := by
      show (j + 1, sY j) ∈ (0, Q.2.1.2.2.2.2.2) :: Q.2.1.2.2.2.2.1.map (fun p => (p.1 + 1, sY p.2))
      refine List.mem_cons_of_mem _ (List.mem_map.mpr ⟨(j, j), ?_, rfl⟩)
      rw [he]
      exact List.mem_map.mpr ⟨j, List.mem_range.mpr hj, rfl⟩
    have := m6 _ hmem
    rw [sY_v] at this
    exact this.symm
  · intro k b hb
    rw [x2] at hb
    cases hb
  · rw [x1]
    exact trivial
theorem qcl {ρ : Nat → Int} {h : zH} {L : List (Nat × sE × sE)} (hm : ∀ m ∈ L, smmQ pReg gv ρ h m) (i : Nat) {r : Nat} {ix v : sE} (e : L[i]? = some (r, ix, v)) (hr : r < 1000) (k : Nat) (hk : pReg k = r) {p : Nat} (hp : sv ρ ix = (p : Int)) : yv h k p = sv ρ v := by
  have q := hm _ (List.mem_of_getElem? e)
  unfold smmQ at q
  rw [if_pos hr] at q
  have := q.2 k hk
  simp only at this
  rw [hp] at this
  exact this
theorem qtl {ρ : Nat → Int} {h : zH} {L : List (Nat × sE × sE)} (hm : ∀ m ∈ L, smmQ pReg gv ρ h m) (i : Nat) {a : Nat} {ix v : sE} (e : L[i]? = some (1000 + a, ix, v)) (ha : a < 1000) : gv a (sv ρ ix) (sv ρ v) h := by
  have q := hm _ (List.mem_of_getElem? e)
  unfold smmQ at q
  rw [if_neg (by simp only; omega), if_pos (by simp only; omega)] at q
  simp only [Nat.add_sub_cancel_left] at q
  exact q
theorem qal {ρ : Nat → Int} {h : zH} {L : List (Nat × sE × sE)} (hm : ∀ m ∈ L, smmQ pReg gv ρ h m) (i : Nat) {a : Nat} {ix v : sE} (e : L[i]? = some (a, ix, v)) (ha : 2000 ≤ a) : qag pReg h a (sv ρ ix) (sv ρ v) := by
  have q := hm _ (List.mem_of_getElem? e)
  unfold smmQ at q
  rw [if_neg (by simp only; omega), if_neg (by simp only; omega)] at q
  exact q
/-- facts told -/
theorem qfc {ρ : Nat → Int} {h : zH} {r : Nat} {ix v : sE} (hr : r < 1000) (h0 : 0 ≤ sv ρ ix) (hv : ∀ k, pReg k = r → yv h k (sv ρ ix).toNat = sv ρ v) : smmQ pReg gv ρ h (r, ix, v) := by
  unfold smmQ
  rw [if_pos hr]
  exact ⟨h0, hv⟩
theorem qft {ρ : Nat → Int} {h : zH} {a : Nat} {ix v : sE} (ha : a < 1000) (hv : gv a (sv ρ ix) (sv ρ v) h) : smmQ pReg gv ρ h (1000 + a, ix, v) := by
  unfold smmQ
  rw [if_neg (by simp only; omega), if_pos (by simp only; omega)]
  simp only [Nat.add_sub_cancel_left]
  exact hv
theorem qfg {ρ : Nat → Int} {h : zH} {a : Nat} {ix v : sE} (ha : 2000 ≤ a) (hv : qag pReg h a (sv ρ ix) (sv ρ v)) : smmQ pReg gv ρ h (a, ix, v) := by
  unfold smmQ
  rw [if_neg (by simp only; omega), if_neg (by simp only; omega)]
  exact hv
end QRUL
