/-! put's five contracts -/
theorem yag0 {h h' : zH} {b : Nat} {n : Nat} (e : ∀ i, i < b + n → yco h' i = yco h i) : yht h' b n = yht h b n := by
  induction n with
  | zero => rfl
  | succ n ih =>
    show yht h' b n + yd (yco h' (b + n)) = yht h b n + yd (yco h (b + n))
    rw [ih (fun i hi => e i (by omega)), e (b + n) (by omega)]
theorem ywf0 {h h' : zH} {b n : Nat} (e : ∀ i, i < b + n → yco h' i = yco h i ∧ yva h' i = yva h i) (H : ywf h b n) : ywf h' b n := by
  intro j hj
  have := H j hj
  rw [(e (b + j) (by omega)).1, (e (b + j) (by omega)).2, yag0 (fun i hi => (e i (by omega)).1)]
  exact this
/-- one step more -/
theorem ystep {t s e : Nat} {c0 v0 : Nat → Int} {h h' : zH} {c v : Int32} (hs : s ≤ e) (he : e ≤ 518) (ht : t < 5) (e1 : yv h 440 14 = t) (e2 : yv h 410 t = e) (f0 : yv h' 440 14 = t) (f1 : yv h' 408 (520 * t + e) = c.toInt) (f2 : yv h' 409 (520 * t + e) = v.toInt) (f3 : yv h' 410 t = e + 1) (f4 : ∀ i, i < 2600 → i ≠ 520 * t + e → yv h' 408 i = yv h 408 i ∧ yv h' 409 i = yv h 409 i) :
    (yG8 t s c0 v0 h → yG8 t s c0 v0 h') ∧ yht h' (520 * t + s) (yv h' 410 t - s).toNat = yht h (520 * t + s) (yv h 410 t - s).toNat + yd c.toInt ∧ (yG1 t s h → yst c.toInt v.toInt (yht h (520 * t + s) (yv h 410 t - s).toNat) → yG1 t s h') := by
  have n1 : (yv h 410 t - s).toNat = e - s := by rw [e2]; omega
  have n2 : (yv h' 410 t - s).toNat = (e - s) + 1 := by rw [f3]; omega
  have co : ∀ i, i < 520 * t + e → yco h' i = yco h i ∧ yva h' i = yva h i := by
    intro i hi
    unfold yco yva
    rw [if_pos (by omega), if_pos (by omega), if_pos (by omega), if_pos (by omega)]
    exact f4 i (by omega) (by omega)
  have b0 : 520 * t + s + (e - s) = 520 * t + e := by omega
  have k1 : yco h' (520 * t + e) = c.toInt := by
    unfold yco
    rw [if_pos (by omega)]
    exact f1
  have k2 : yva h' (520 * t + e) = v.toInt := by
    unfold yva
    rw [if_pos (by omega)]
    exact f2
  refine ⟨?_, ?_, ?_⟩
  · rintro ⟨-, -, g⟩
    refine ⟨f0, by rw [f3]; omega, fun i hi ho => ?_⟩
    have := f4 i hi (by omega)
    rw [this.1, this.2]
    exact g i hi ho
  · rw [n1, n2]
    show yht h' (520 * t + s) (e - s) + yd (yco h' (520 * t + s + (e - s))) = _
    rw [b0, k1, yag0 (fun i hi => (co i (by omega)).1)]
  · rintro ⟨-, g2, g3⟩ hst
    refine ⟨f0, by rw [f3]; omega, ?_⟩
    rw [n2]
    intro j hj
    by_cases hj2 : j < e - s
    · rw [n1] at g3
      exact ywf0 (n := e - s) (fun i hi => co i (by omega)) g3 j hj2
    · have hj3 : j = e - s := by omega
      subst hj3
      rw [b0, k1, k2, yag0 (fun i hi => (co i (by omega)).1)]
      rw [n1] at hst
      exact hst
