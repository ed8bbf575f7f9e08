/-! the ghosts of a night -/
section NGHO
/-- a region's cell -/
noncomputable def qk (r : Nat) : Nat := if hs : pSin r = true then Classical.choose (pCell r hs) else 0
theorem qk_r {r : Nat} (hs : pSin r = true) : pReg (qk r) = r := by
  unfold qk
  rw [dif_pos hs]
  exact Classical.choose_spec (pCell r hs)
noncomputable def rv (h : zH) (r i : Nat) : Int := yv h (qk r) i
/-- a rule's cell, by its place among the told -/
theorem qrv {gv : Nat → Int → Int → zH → Prop} {ρ : Nat → Int} {h : zH} {L : List (Nat × sE × sE)} (hm : ∀ m ∈ L, smmQ pReg gv ρ h m) (i : Nat) {r j : Nat} {ix : sE} (e : L[i]? = some (r, ix, sY j)) (hr : r < 1000) (hs : pSin r = true) {p : Nat} (hp : sv ρ ix = (p : Int)) : rv h r p = ρ j := (qcl hm i e hr (qk r) (qk_r hs) hp).trans (sY_v ρ j)
/-- rb, re, rd, rp: beds, eyes, dreams, places; rn, ri: the night's number -/
noncomputable def nGh (rb re rd rp rn ri : Nat) (h : zH) : Prop := ∃ n H : Nat, rv h 56 0 = (n : Int) ∧ rv h 56 1 = (H : Int) ∧ 2 ≤ n ∧ n ≤ 6 ∧ 4 ≤ H ∧ H ≤ 10 ∧ (∀ m, m < n → (0 ≤ rv h rb m ∧ rv h rb m ≤ 9) ∧ (0 ≤ rv h 55 m ∧ rv h 55 m ≤ 10) ∧ (0 ≤ rv h re m ∧ rv h re m ≤ 12) ∧ (0 ≤ rv h rd m ∧ rv h rd m ≤ 18) ∧ (0 ≤ rv h rp m ∧ rv h rp m < (n : Int))) ∧ (∀ p : Nat, p < n → ∃ o, o < n ∧ rv h rp o = (p : Int)) ∧ (0 ≤ rv h rn ri ∧ rv h rn ri ≤ 999) ∧ (-1 ≤ rv h 54 5 ∧ rv h 54 5 ≤ 3) ∧ (1 ≤ rv h 56 2 ∧ rv h 56 2 ≤ 20) ∧
  (∀ m, m < n → rv h 606 m = (nWt n (rv h rp) m : Int)) ∧
  (∀ t m a, t ≤ H → m < 6 → a < 4 → rv h (610 + a) (6 * t + m) = nSt n (rv h 56 2) (rv h 54 5) (rv h rn ri) (rv h 55) (rv h rb) (rv h re) (rv h rd) (rv h rp) (rv h 620) (fun a m => rv h (610 + a) m) t a m) ∧
  (∀ t m, t < H → m < n → rv h 607 (6 * t + m) = if nA n (rv h 56 2) (rv h 54 5) (rv h rn ri) (rv h 55) (rv h rb) (rv h re) (rv h rd) (rv h rp) (rv h 620) (fun a m => rv h (610 + a) m) t m = true then 1 else 0) ∧
  (∀ t m, t < H → m < n → rv h 608 (6 * t + m) = nS n (rv h 56 2) (rv h 54 5) (rv h rn ri) (rv h 55) (rv h rb) (rv h re) (rv h rd) (rv h rp) (rv h 620) (fun a m => rv h (610 + a) m) t m) ∧
  (∀ t m, t < H → m < n → rv h 609 (6 * t + m) = nD n (rv h 56 2) (rv h 54 5) (rv h rn ri) (rv h 55) (rv h rb) (rv h re) (rv h rd) (rv h rp) (rv h 620) (fun a m => rv h (610 + a) m) t m) ∧
  (∀ k, k ≤ 6 * H → rv h 614 k = nUN n (rv h 56 2) (rv h 54 5) (rv h rn ri) (rv h 55) (rv h rb) (rv h re) (rv h rd) (rv h rp) (rv h 620) (fun a m => rv h (610 + a) m) k ∧ rv h 615 k = nOP n (rv h 56 2) (rv h 54 5) (rv h rn ri) (rv h 55) (rv h rb) (rv h re) (rv h rd) (rv h rp) (rv h 620) (fun a m => rv h (610 + a) m) k) ∧
  (∀ t, t ≤ H → rv h 616 t = nQU n (rv h 56 2) (rv h 54 5) (rv h rn ri) (rv h 55) (rv h rb) (rv h re) (rv h rd) (rv h rp) (rv h 620) (fun a m => rv h (610 + a) m) t) ∧
  (∀ t m, m ≤ 6 → rv h 617 (7 * t + m) = nAW n (rv h 56 2) (rv h 54 5) (rv h rn ri) (rv h 55) (rv h rb) (rv h re) (rv h rd) (rv h rp) (rv h 620) (fun a m => rv h (610 + a) m) t m)
/-- the watcher is a man -/
theorem nWt_lt {n : Nat} {pl : Nat → Int} {m : Nat} (hm : m < n) (h0 : 0 ≤ pl m) (h1 : pl m < (n : Int)) (hp : ∀ p : Nat, p < n → ∃ o, o < n ∧ pl o = (p : Int)) : pl (nWt n pl m) = nAh n pl m ∧ nWt n pl m < n ∧ ∀ j, j < nWt n pl m → pl j ≠ nAh n pl m := by
  have ha : 0 ≤ nAh n pl m ∧ nAh n pl m < (n : Int) := by
    unfold nAh
    split <;> omega
  obtain ⟨o, o1, o2⟩ := hp (nAh n pl m).toNat (by omega)
  obtain ⟨a, b, _, d⟩ := nFst_ok (f := fun o => decide (pl o = nAh n pl m)) n 0 (Nat.zero_le o) (by omega) (decide_eq_true (by rw [o2]; omega))
  exact ⟨of_decide_eq_true a, Nat.lt_of_le_of_lt b o1, fun j hj => of_decide_eq_false (d j (Nat.zero_le j) hj)⟩
theorem nCt_skip {f : Nat → Int} {a : Nat} : ∀ {k : Nat}, (∀ j, a ≤ j → j < a + k → f j = 0) → nCt f (a + k) = nCt f a
  | 0, _ => rfl
  | k + 1, h0 => by
    show nCt f (a + k) + f (a + k) = nCt f a
    rw [nCt_skip (fun j j1 j2 => h0 j j1 (by omega)), h0 (a + k) (by omega) (by omega)]
    omega
theorem nCt_mono {f : Nat → Int} (h0 : ∀ j, 0 ≤ f j) (a : Nat) : ∀ k : Nat, nCt f a ≤ nCt f (a + k)
  | 0 => Int.le_refl _
  | k + 1 => by
    show nCt f a ≤ nCt f (a + k) + f (a + k)
    have := nCt_mono h0 a k
    have := h0 (a + k)
    omega
theorem nAW_01 {n : Nat} {mare hold nt : Int} {ne bd ey dm pl W : Nat → Int} {g0 : Nat → Nat → Int} (t : Nat) : ∀ m : Nat, nAW n mare hold nt ne bd ey dm pl W g0 t m = 0 ∨ nAW n mare hold nt ne bd ey dm pl W g0 t m = 1
  | 0 => Or.inl rfl
  | m + 1 => by
    unfold nAW
    split
    · exact Or.inr rfl
    · exact nAW_01 t m
end NGHO
