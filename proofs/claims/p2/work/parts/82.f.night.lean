/-! a night by numbers -/
section NGT
variable (n : Nat) (mare hold nt : Int) (ne bd ey dm pl W : Nat → Int) (g0 : Nat → Nat → Int)
noncomputable def nFst (f : Nat → Bool) : Nat → Nat → Nat
  | 0, _ => 0
  | k + 1, o => if f o = true then o else nFst f k (o + 1)
noncomputable def nAh (m : Nat) : Int := if pl m = 0 then (n : Int) - 1 else pl m - 1
noncomputable def nWt (m : Nat) : Nat := nFst (fun o => decide (pl o = nAh n pl m)) n 0
noncomputable def nMa (p : Nat) : Nat := nFst (fun o => decide (pl o = (p : Int))) n 0
/-- who is asleep, how, and what he dreams; S: slept, woken at, dreamt, nightmares by men -/
noncomputable def nAs (S : Nat → Nat → Int) (h m : Nat) : Bool := decide (bd m ≤ (h : Int)) && (decide ((h : Int) < bd m + ne m) && decide (S 1 m = -1))
noncomputable def nSo (S : Nat → Nat → Int) (h m : Nat) : Int := if nAs ne bd S h m = true then (if nAs ne bd S h (nWt n pl m) = true then 1 else 2) else 0
noncomputable def nCl (v : Int) : Int := if v < 0 then 0 else if 20 < v then 20 else v
noncomputable def nLi (d i e h w t : Int) : Int := d + 32 * i + 512 * e + 8192 * h + 131072 * w + 262144 * t
noncomputable def nDr (S : Nat → Nat → Int) (h m : Nat) : Int := if nSo n ne bd pl S h m = 0 then -1 else nCl (if hold = -1 then dm m + S 0 m - (if nSo n ne bd pl S h m = 2 then ey (nWt n pl m) / 2 else 0) else W (nLi (dm m) (S 0 m) (ey (nWt n pl m)) h (nSo n ne bd pl S h m - 1) nt).toNat)
noncomputable def nUp (S : Nat → Nat → Int) (h a m : Nat) : Int := if m < n ∧ nSo n ne bd pl S h m ≠ 0 then (if a = 0 then S 0 m + 1 else if a = 1 then (if nSo n ne bd pl S h m = 2 ∧ mare ≤ nDr n hold nt ne bd ey dm pl W S h m then (h : Int) else S 1 m) else if a = 2 then S 2 m + nDr n hold nt ne bd ey dm pl W S h m else S 3 m + (if mare ≤ nDr n hold nt ne bd ey dm pl W S h m then 1 else 0)) else S a m
noncomputable def nSt : Nat → Nat → Nat → Int
  | 0 => fun a m => if m < n then (if a = 1 then -1 else 0) else g0 a m
  | h + 1 => nUp n mare hold nt ne bd ey dm pl W (nSt h) h
/-- by hours -/
noncomputable abbrev nA (h m : Nat) : Bool := nAs ne bd (nSt n mare hold nt ne bd ey dm pl W g0 h) h m
noncomputable abbrev nS (h m : Nat) : Int := nSo n ne bd pl (nSt n mare hold nt ne bd ey dm pl W g0 h) h m
noncomputable abbrev nD (h m : Nat) : Int := nDr n hold nt ne bd ey dm pl W (nSt n mare hold nt ne bd ey dm pl W g0 h) h m
noncomputable def nCt (f : Nat → Int) : Nat → Int
  | 0 => 0
  | k + 1 => nCt f k + f k
noncomputable def nUN (k : Nat) : Int := nCt (fun j => if j % 6 < n ∧ nS n mare hold nt ne bd ey dm pl W g0 (j / 6) (j % 6) = 1 then 1 else 0) k
noncomputable def nOP (k : Nat) : Int := nCt (fun j => if j % 6 < n ∧ nS n mare hold nt ne bd ey dm pl W g0 (j / 6) (j % 6) = 1 ∧ mare ≤ nD n mare hold nt ne bd ey dm pl W g0 (j / 6) (j % 6) then 1 else 0) k
noncomputable def nMR (k : Nat) : Int := nCt (fun j => if j % 6 < n ∧ nS n mare hold nt ne bd ey dm pl W g0 (j / 6) (j % 6) ≠ 0 ∧ mare ≤ nD n mare hold nt ne bd ey dm pl W g0 (j / 6) (j % 6) then 1 else 0) k
noncomputable def nAW (h : Nat) : Nat → Int
  | 0 => 0
  | m + 1 => if nS n mare hold nt ne bd ey dm pl W g0 h m = 2 then 1 else nAW h m
noncomputable def nQU (h : Nat) : Int := nCt (fun h => if nAW n mare hold nt ne bd ey dm pl W g0 h n = 1 ∧ nUN n mare hold nt ne bd ey dm pl W g0 (6 * h + n) = nUN n mare hold nt ne bd ey dm pl W g0 (6 * h) then 1 else 0) h
noncomputable def nMk (h m : Nat) : Int := nCt (fun j => if nA n mare hold nt ne bd ey dm pl W g0 h j = true then (2 : Int) ^ j else 0) m
noncomputable def nWm (h m : Nat) : Int := nCt (fun j => if nS n mare hold nt ne bd ey dm pl W g0 h j = 2 then (2 : Int) ^ j else 0) m
noncomputable def nWB (h m : Nat) : Int := nCt (fun j => if nSt n mare hold nt ne bd ey dm pl W g0 h 1 j = -1 then 0 else (2 : Int) ^ j) m
end NGT
section NGTO
theorem nFst_ok {f : Nat → Bool} : ∀ (k o : Nat) {x : Nat}, o ≤ x → x < o + k → f x = true → f (nFst f k o) = true ∧ nFst f k o ≤ x ∧ o ≤ nFst f k o ∧ ∀ j, o ≤ j → j < nFst f k o → f j = false
  | 0, o, x, h1, h2, _ => by omega
  | k + 1, o, x, h1, h2, h3 => by
    unfold nFst
    by_cases ho : f o = true
    · rw [if_pos ho]
      exact ⟨ho, h1, Nat.le_refl _, fun j j1 j2 => by omega⟩
    · rw [if_neg ho]
      have hx : o + 1 ≤ x := by
        rcases Nat.lt_or_ge o x with q | q
        · exact q
        · exact absurd (by rw [show o = x by omega]; exact h3) ho
      obtain ⟨a, b, c, d⟩ := nFst_ok k (o + 1) hx (by omega) h3
      refine ⟨a, b, by omega, fun j j1 j2 => ?_⟩
      rcases Nat.lt_or_ge o j with q | q
      · exact d j q j2
      · rw [show j = o by omega]
        simpa using ho
variable {n : Nat} {mare hold nt : Int} {ne bd ey dm pl W : Nat → Int} {g0 : Nat → Nat → Int}
/-- what an hour makes of a man -/
theorem nSt_s (h a m : Nat) : nSt n mare hold nt ne bd ey dm pl W g0 (h + 1) a m = nUp n mare hold nt ne bd ey dm pl W (nSt n mare hold nt ne bd ey dm pl W g0 h) h a m := rfl
theorem nCl_b (v : Int) : 0 ≤ nCl v ∧ nCl v ≤ 20 := by
  unfold nCl
  split
  · omega
  · split <;> omega
theorem nDr_b {S : Nat → Nat → Int} {h m : Nat} : (nSo n ne bd pl S h m = 0 → nDr n hold nt ne bd ey dm pl W S h m = -1) ∧ (nSo n ne bd pl S h m ≠ 0 → 0 ≤ nDr n hold nt ne bd ey dm pl W S h m ∧ nDr n hold nt ne bd ey dm pl W S h m ≤ 20) := by
  unfold nDr
  constructor
  · intro h0
    rw [if_pos h0]
  · intro h0
    rw [if_neg h0]
    exact nCl_b _
theorem nSo_b {S : Nat → Nat → Int} {h m : Nat} : (nAs ne bd S h m = false ∧ nSo n ne bd pl S h m = 0) ∨ (nAs ne bd S h m = true ∧ nAs ne bd S h (nWt n pl m) = false ∧ nSo n ne bd pl S h m = 2) ∨ (nAs ne bd S h m = true ∧ nAs ne bd S h (nWt n pl m) = true ∧ nSo n ne bd pl S h m = 1) := by
  unfold nSo
  cases h1 : nAs ne bd S h m with
  | false => exact Or.inl ⟨rfl, if_neg (by decide)⟩
  | true =>
    rw [if_pos rfl]
    cases h2 : nAs ne bd S h (nWt n pl m) with
    | false => exact Or.inr (Or.inl ⟨rfl, rfl, if_neg (by decide)⟩)
    | true => exact Or.inr (Or.inr ⟨rfl, rfl, if_pos rfl⟩)
/-- bounds by hours -/
theorem nSt_b {m : Nat} (hm : m < n) : ∀ h : Nat, (0 ≤ nSt n mare hold nt ne bd ey dm pl W g0 h 0 m ∧ nSt n mare hold nt ne bd ey dm pl W g0 h 0 m ≤ h) ∧ (-1 ≤ nSt n mare hold nt ne bd ey dm pl W g0 h 1 m ∧ (nSt n mare hold nt ne bd ey dm pl W g0 h 1 m < h ∨ nSt n mare hold nt ne bd ey dm pl W g0 h 1 m = -1)) ∧ (0 ≤ nSt n mare hold nt ne bd ey dm pl W g0 h 2 m ∧ nSt n mare hold nt ne bd ey dm pl W g0 h 2 m ≤ 20 * h) ∧ (0 ≤ nSt n mare hold nt ne bd ey dm pl W g0 h 3 m ∧ nSt n mare hold nt ne bd ey dm pl W g0 h 3 m ≤ h)
  | 0 => by
    have e : ∀ a, nSt n mare hold nt ne bd ey dm pl W g0 0 a m = if a = 1 then -1 else 0 := fun a => if_pos hm
    rw [e, e, e, e]
    simp
  | h + 1 => by
    obtain ⟨a, b, c, d⟩ := nSt_b hm h
    rw [nSt_s, nSt_s, nSt_s, nSt_s]
    unfold nUp
    by_cases h0 : nSo n ne bd pl (nSt n mare hold nt ne bd ey dm pl W g0 h) h m = 0
    · have hn : ¬ (m < n ∧ nSo n ne bd pl (nSt n mare hold nt ne bd ey dm pl W g0 h) h m ≠ 0) := fun q => q.2 h0
      rw [if_neg hn, if_neg hn, if_neg hn, if_neg hn]
      omega
    · have hp : m < n ∧ nSo n ne bd pl (nSt n mare hold nt ne bd ey dm pl W g0 h) h m ≠ 0 := ⟨hm, h0⟩
      have q := (nDr_b (n := n) (hold := hold) (nt := nt) (ne := ne) (bd := bd) (ey := ey) (dm := dm) (pl := pl) (W := W) (S := nSt n mare hold nt ne bd ey dm pl W g0 h) (h := h) (m := m)).2 h0
      simp only [if_pos hp, if_true, if_neg (show ¬ (1 : Nat) = 0 by decide), if_neg (show ¬ (2 : Nat) = 0 by decide), if_neg (show ¬ (2 : Nat) = 1 by decide), if_neg (show ¬ (3 : Nat) = 0 by decide), if_neg (show ¬ (3 : Nat) = 1 by decide), if_neg (show ¬ (3 : Nat) = 2 by decide)]
      refine ⟨by omega, ?_, by omega, ?_⟩
      · split <;> omega
      · split <;> omega
end NGTO
