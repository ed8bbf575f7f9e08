/-! told: the path's places, the clauses' tables -/
section LPTT
noncomputable def c242 (k : Nat) : Int := if k ≤ 242 then (k : Int) else 0
theorem c242_e {k : Nat} (h : k ≤ 242) : c242 k = (k : Int) := if_pos h
noncomputable def tPt (i : Nat) (x a : Int) (h : zH) : Prop := (i = 11 ∨ i = 12 → ∃ k, lOk (wN h) (wB h) k ∧ x = (lPos (wN h) (wB h) k : Int) ∧ a = (lOff (wN h) (wB h) k : Int)) ∧ (i = 15 → ∃ k, lOk (wN h) (wB h) k ∧ lPos (wN h) (wB h) k ≤ lP1 (wN h) (wB h) k ∧ x = (lP1 (wN h) (wB h) k : Int) ∧ a = (lOff (wN h) (wB h) k : Int) ∧ eG false (wN h) (wB h) 11 0 (lPos (wN h) (wB h) k) = eG false (wN h) (wB h) 17 0 (lP1 (wN h) (wB h) k) ∧ wG (wN h) (wB h) 11 0 (lPos (wN h) (wB h) k) = wG (wN h) (wB h) 17 0 (lP1 (wN h) (wB h) k)) ∧ (i = 16 → ∃ k, inCl (wN h) (wB h) k x ∧ lTs (wN h) (wB h) k ∧ a = (lO2 (wN h) (wB h) k : Int) ∧ ∃ e : Nat, x = (e : Int) ∧ lSe (wN h) (wB h) k = lO2 (wN h) (wB h) k + (eG false (wN h) (wB h) 18 0 e).length ∧ wG (wN h) (wB h) 11 0 (lPos (wN h) (wB h) k) = wG (wN h) (wB h) 18 0 e)
/-- the tables of the clauses -/
noncomputable def lTab (h : zH) : Prop := ∀ k, k < 140 → lOk (wN h) (wB h) k → rv h 666 k = c242 (lOff (wN h) (wB h) k) ∧ rv h 667 k = c242 (lSf (wN h) (wB h) k) ∧ rv h 668 k = c242 (lSe (wN h) (wB h) k) ∧ (lCl (wN h) (wB h) k → wCh (wN h) (wB h) (wSk (wN h) (wB h) (wG (wN h) (wB h) 11 0 (lPos (wN h) (wB h) k)).toNat) = 0 → rv h 672 0 = (k : Int) + 1)
noncomputable def tPb (x b : Int) (h : zH) : Prop := lTab h ∧ ∃ k : Nat, b = (k : Int) ∧ inCl (wN h) (wB h) k x
theorem tPt_o {i : Nat} {x a : Int} {h : zH} (hi : ¬ (i = 11 ∨ i = 12 ∨ i = 15 ∨ i = 16)) : tPt i x a h := ⟨fun z => absurd z (by omega), fun z => absurd z (by omega), fun z => absurd z (by omega)⟩
theorem tPt_c {i : Nat} {x a x' a' : Int} {h : zH} (ht : tPt i x a h) (hx : x = x') (ha : a = a') : tPt i x' a' h := by
  rw [← hx, ← ha]
  exact ht
theorem tPb_c {x b x' b' : Int} {h : zH} (ht : tPb x b h) (hx : x = x') (ha : b = b') : tPb x' b' h := by
  rw [← hx, ← ha]
  exact ht
end LPTT
