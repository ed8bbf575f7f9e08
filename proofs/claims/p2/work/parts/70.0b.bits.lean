/-! the bytes of a word, as numbers -/
theorem pBn (x : Int32) : x.toInt = if x.toBitVec.toNat < 2147483648 then (x.toBitVec.toNat : Int) else (x.toBitVec.toNat : Int) - 4294967296 := by
  show x.toBitVec.toInt = _
  rw [BitVec.toInt_eq_toNat_cond]
  have := x.toBitVec.isLt
  split <;> split <;> omega
theorem pAnd255 (x : Int32) : (x &&& 255).toInt = x.toInt % 256 := by
  have e : (x &&& 255).toBitVec.toNat = x.toBitVec.toNat % 256 := by
    rw [Int32.toBitVec_and, BitVec.toNat_and]
    have e2 : ((255 : Int32).toBitVec).toNat = 2 ^ 8 - 1 := by decide
    rw [e2, Nat.and_two_pow_sub_one_eq_mod]
  have := x.toBitVec.isLt
  rw [pBn (x &&& 255), pBn x, e, if_pos (by omega)]
  split <;> omega
theorem pUsh {x c : Int32} {k : Nat} (hc : c.toInt = (k : Int)) (hk : k = 0 ∨ k = 8 ∨ k = 16 ∨ k = 24) : (zush x c).toBitVec.toNat = x.toBitVec.toNat / 2 ^ k := by
  unfold zush
  rcases hk with rfl | rfl | rfl | rfl
  · obtain rfl : c = 0 := Int32.toInt_inj.mp (hc.trans (by decide))
    exact pk_ushr x 0 0 (by decide)
  · obtain rfl : c = 8 := Int32.toInt_inj.mp (hc.trans (by decide))
    exact pk_ushr x 8 8 (by decide)
  · obtain rfl : c = 16 := Int32.toInt_inj.mp (hc.trans (by decide))
    exact pk_ushr x 16 16 (by decide)
  · obtain rfl : c = 24 := Int32.toInt_inj.mp (hc.trans (by decide))
    exact pk_ushr x 24 24 (by decide)
theorem pIsh {x c : Int32} {k : Nat} (hc : c.toInt = (k : Int)) (hk : k = 0 ∨ k = 8 ∨ k = 16 ∨ k = 24) : (x >>> (c &&& 31)).toInt = x.toInt / ((2 ^ k : Nat) : Int) := by
  rcases hk with rfl | rfl | rfl | rfl
  · obtain rfl : c = 0 := Int32.toInt_inj.mp (hc.trans (by decide))
    rw [pk_shr x ((0 : Int32) &&& 31) 0 (by decide), Int.shiftRight_eq_div_pow]
  · obtain rfl : c = 8 := Int32.toInt_inj.mp (hc.trans (by decide))
    rw [pk_shr x ((8 : Int32) &&& 31) 8 (by decide), Int.shiftRight_eq_div_pow]
  · obtain rfl : c = 16 := Int32.toInt_inj.mp (hc.trans (by decide))
    rw [pk_shr x ((16 : Int32) &&& 31) 16 (by decide), Int.shiftRight_eq_div_pow]
  · obtain rfl : c = 24 := Int32.toInt_inj.mp (hc.trans (by decide))
    rw [pk_shr x ((24 : Int32) &&& 31) 24 (by decide), Int.shiftRight_eq_div_pow]
/-- a word of four bytes, shifted -/
theorem pWus {x c : Int32} {k : Nat} {b0 b1 b2 b3 s : Int} (hc : c.toInt = (k : Int)) (hk : k = 0 ∨ k = 8 ∨ k = 16 ∨ k = 24) (h0 : 0 ≤ b0 ∧ b0 ≤ 255) (h1 : 0 ≤ b1 ∧ b1 ≤ 255) (h2 : 0 ≤ b2 ∧ b2 ≤ 255) (h3 : 0 ≤ b3 ∧ b3 ≤ 255) (hs : 0 ≤ s ∧ s ≤ 1) (hx : x.toInt = b3 + 256 * b2 + 65536 * b1 + 16777216 * b0 - 4294967296 * s) : (zush x c).toInt = if k = 0 then x.toInt else if k = 8 then b2 + 256 * b1 + 65536 * b0 else if k = 16 then b1 + 256 * b0 else b0 := by
  have e := pUsh (x := x) hc hk
  have hl := x.toBitVec.isLt
  rw [pBn] at hx
  rw [pBn (zush x c), e]
  rcases hk with rfl | rfl | rfl | rfl
  · rw [if_pos rfl, pBn x]
    simp only [Nat.pow_zero, Nat.div_one]
  · have q : x.toBitVec.toNat / 2 ^ 8 < 2147483648 := by omega
    rw [if_pos q, if_neg (show ¬ (8 = 0) by decide), if_pos rfl]
    split at hx <;> omega
  · have q : x.toBitVec.toNat / 2 ^ 16 < 2147483648 := by omega
    rw [if_pos q, if_neg (show ¬ (16 = 0) by decide), if_neg (show ¬ (16 = 8) by decide), if_pos rfl]
    split at hx <;> omega
  · have q : x.toBitVec.toNat / 2 ^ 24 < 2147483648 := by omega
    rw [if_pos q, if_neg (show ¬ (24 = 0) by decide), if_neg (show ¬ (24 = 8) by decide), if_neg (show ¬ (24 = 16) by decide)]
    split at hx <;> omega
theorem pWis {x c : Int32} {k : Nat} {b0 b1 b2 b3 s : Int} (hc : c.toInt = (k : Int)) (hk : k = 0 ∨ k = 8 ∨ k = 16 ∨ k = 24) (h0 : 0 ≤ b0 ∧ b0 ≤ 255) (h1 : 0 ≤ b1 ∧ b1 ≤ 255) (h2 : 0 ≤ b2 ∧ b2 ≤ 255) (h3 : 0 ≤ b3 ∧ b3 ≤ 255) (hx : x.toInt = b3 + 256 * b2 + 65536 * b1 + 16777216 * b0 - 4294967296 * s) : (x >>> (c &&& 31)).toInt = if k = 0 then x.toInt else if k = 8 then b2 + 256 * b1 + 65536 * b0 - 16777216 * s else if k = 16 then b1 + 256 * b0 - 65536 * s else b0 - 256 * s := by
  rw [pIsh (x := x) hc hk, hx]
  rcases hk with rfl | rfl | rfl | rfl
  · rw [if_pos rfl]
    omega
  · rw [if_neg (by decide), if_pos rfl]
    omega
  · rw [if_neg (by decide), if_neg (by decide), if_pos rfl]
    omega
  · rw [if_neg (by decide), if_neg (by decide), if_neg (by decide)]
    omega
