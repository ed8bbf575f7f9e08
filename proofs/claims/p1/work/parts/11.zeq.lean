/-! ===== Int32 by its bits: bt x i ===== -/
def bt (x : Int32) (i : Nat) : Bool := x.toBitVec.getLsbD i
theorem b_ext {x y : Int32} (h : ∀ i, i < 32 → bt x i = bt y i) : x = y := Int32.toBitVec_inj.mp (BitVec.eq_of_getLsbD_eq (fun i hi => h i hi))
theorem b_or (x y : Int32) (i : Nat) : bt (x ||| y) i = (bt x i || bt y i) := by unfold bt; rw [Int32.toBitVec_or, BitVec.getLsbD_or]
theorem b_and (x y : Int32) (i : Nat) : bt (x &&& y) i = (bt x i && bt y i) := by unfold bt; rw [Int32.toBitVec_and, BitVec.getLsbD_and]
theorem b_xor (x y : Int32) (i : Nat) : bt (x ^^^ y) i = (bt x i ^^ bt y i) := by unfold bt; rw [Int32.toBitVec_xor, BitVec.getLsbD_xor]
theorem b_big {x : Int32} {i : Nat} (h : 32 ≤ i) : bt x i = false := BitVec.getLsbD_of_ge _ _ h
theorem b_255 (i : Nat) : bt 255 i = decide (i < 8) := by
  rcases Nat.lt_or_ge i 32 with h | h
  · exact (by decide +kernel : ∀ i, i < 32 → bt 255 i = decide (i < 8)) i h
  · rw [b_big h, decide_eq_false (by omega)]
theorem b_65535 (i : Nat) : bt 65535 i = decide (i < 16) := by
  rcases Nat.lt_or_ge i 32 with h | h
  · exact (by decide +kernel : ∀ i, i < 32 → bt 65535 i = decide (i < 16)) i h
  · rw [b_big h, decide_eq_false (by omega)]
theorem b_m1 : ∀ i, i < 32 → bt (-1) i = true := by decide +kernel
theorem b_0 (i : Nat) : bt 0 i = false := BitVec.getLsbD_zero
theorem s_l : ∀ n, n < 32 → ((nI n &&& 31).toBitVec.smod 32).toNat = n := by decide +kernel
theorem s_u : ∀ n, n < 32 → (((nI n).toUInt32 &&& Int32.toUInt32 31).toBitVec % 32).toNat = n := by decide +kernel
theorem b_shl (n : Nat) (hn : n < 32) (x : Int32) {i : Nat} (hi : i < 32) : bt (x <<< (nI n &&& 31)) i = (decide (n ≤ i) && bt x (i - n)) := by
  unfold bt
  rw [Int32.toBitVec_shiftLeft]
  show (x.toBitVec <<< ((nI n &&& 31).toBitVec.smod 32).toNat).getLsbD i = _
  rw [s_l n hn, BitVec.getLsbD_shiftLeft]
  rcases Nat.lt_or_ge i n with h | h
  · simp [h, Nat.not_le.mpr h]
  · simp [hi, h, Nat.not_lt.mpr h]
theorem b_ushr (n : Nat) (hn : n < 32) (x : Int32) (i : Nat) : bt ((x.toUInt32 >>> ((nI n).toUInt32 &&& Int32.toUInt32 31)).toInt32) i = bt x (n + i) := by
  show (x.toUInt32 >>> ((nI n).toUInt32 &&& Int32.toUInt32 31)).toBitVec.getLsbD i = x.toUInt32.toBitVec.getLsbD (n + i)
  rw [UInt32.toBitVec_shiftRight]
  show (x.toUInt32.toBitVec >>> (((nI n).toUInt32 &&& Int32.toUInt32 31).toBitVec % 32).toNat).getLsbD i = _
  rw [s_u n hn, BitVec.getLsbD_ushiftRight]
theorem b_sshr (n : Nat) (hn : n < 32) (x : Int32) {i : Nat} (hi : i < 32) : bt (x >>> (nI n &&& 31)) i = if n + i < 32 then bt x (n + i) else bt x 31 := by
  unfold bt
  rw [Int32.toBitVec_shiftRight]
  show (x.toBitVec.sshiftRight ((nI n &&& 31).toBitVec.smod 32).toNat).getLsbD i = _
  rw [s_l n hn, BitVec.getLsbD_sshiftRight, BitVec.msb_eq_getLsbD_last]
  simp [hi]
theorem zsh (n : Nat) (hn : n ≤ 24) (x : Int32) : ((x.toUInt32 >>> ((nI n).toUInt32 &&& Int32.toUInt32 31)).toInt32 &&& 255) = (x >>> (nI n &&& 31)) &&& 255 := by
  apply b_ext
  intro i hi
  rw [b_and, b_and, b_255, b_ushr n (by omega), b_sshr n (by omega) x hi]
  by_cases h : i < 8
  · rw [if_pos (by omega)]
  · simp [h]

theorem zb0 (p0 p1 p2 p3 p4 : Int32) : (s_X12_byteOf p0 p1 p2 p3 p4 (nI 0) = 0) = ((((p0.toUInt32 >>> ((24 : Int32).toUInt32 &&& Int32.toUInt32 31)).toInt32) &&& 255) = 0) := by
  have e : (24 : Int32) - 8 * (nI 0 - nI 0 / 4 * 4) = 24 := by decide
  unfold s_X12_byteOf
  rw [if_neg (show ¬ (4 : Int32) ≤ nI 0 by decide), e]
  exact congrArg (fun z => z = 0) (zsh 24 (by decide) p0).symm

theorem zb1 (p0 p1 p2 p3 p4 : Int32) : (s_X12_byteOf p0 p1 p2 p3 p4 (nI 1) = 0) = ((((p0.toUInt32 >>> ((16 : Int32).toUInt32 &&& Int32.toUInt32 31)).toInt32) &&& 255) = 0) := by
  have e : (24 : Int32) - 8 * (nI 1 - nI 1 / 4 * 4) = 16 := by decide
  unfold s_X12_byteOf
  rw [if_neg (show ¬ (4 : Int32) ≤ nI 1 by decide), e]
  exact congrArg (fun z => z = 0) (zsh 16 (by decide) p0).symm

theorem zb2 (p0 p1 p2 p3 p4 : Int32) : (s_X12_byteOf p0 p1 p2 p3 p4 (nI 2) = 0) = ((((p0.toUInt32 >>> ((8 : Int32).toUInt32 &&& Int32.toUInt32 31)).toInt32) &&& 255) = 0) := by
  have e : (24 : Int32) - 8 * (nI 2 - nI 2 / 4 * 4) = 8 := by decide
  unfold s_X12_byteOf
  rw [if_neg (show ¬ (4 : Int32) ≤ nI 2 by decide), e]
  exact congrArg (fun z => z = 0) (zsh 8 (by decide) p0).symm

theorem zb3 (p0 p1 p2 p3 p4 : Int32) : (s_X12_byteOf p0 p1 p2 p3 p4 (nI 3) = 0) = ((((p0.toUInt32 >>> ((0 : Int32).toUInt32 &&& Int32.toUInt32 31)).toInt32) &&& 255) = 0) := by
  have e : (24 : Int32) - 8 * (nI 3 - nI 3 / 4 * 4) = 0 := by decide
  unfold s_X12_byteOf
  rw [if_neg (show ¬ (4 : Int32) ≤ nI 3 by decide), e]
  exact congrArg (fun z => z = 0) (zsh 0 (by decide) p0).symm

theorem zb4 (p0 p1 p2 p3 p4 : Int32) : (s_X12_byteOf p0 p1 p2 p3 p4 (nI 4) = 0) = ((((p1.toUInt32 >>> ((24 : Int32).toUInt32 &&& Int32.toUInt32 31)).toInt32) &&& 255) = 0) := by
  have e : (24 : Int32) - 8 * (nI 4 - nI 4 / 4 * 4) = 24 := by decide
  unfold s_X12_byteOf
  rw [if_pos (show (4 : Int32) ≤ nI 4 by decide), if_neg (show ¬ (8 : Int32) ≤ nI 4 by decide), e]
  exact congrArg (fun z => z = 0) (zsh 24 (by decide) p1).symm

theorem zb5 (p0 p1 p2 p3 p4 : Int32) : (s_X12_byteOf p0 p1 p2 p3 p4 (nI 5) = 0) = ((((p1.toUInt32 >>> ((16 : Int32).toUInt32 &&& Int32.toUInt32 31)).toInt32) &&& 255) = 0) := by
  have e : (24 : Int32) - 8 * (nI 5 - nI 5 / 4 * 4) = 16 := by decide
  unfold s_X12_byteOf
  rw [if_pos (show (4 : Int32) ≤ nI 5 by decide), if_neg (show ¬ (8 : Int32) ≤ nI 5 by decide), e]
  exact congrArg (fun z => z = 0) (zsh 16 (by decide) p1).symm

theorem zb6 (p0 p1 p2 p3 p4 : Int32) : (s_X12_byteOf p0 p1 p2 p3 p4 (nI 6) = 0) = ((((p1.toUInt32 >>> ((8 : Int32).toUInt32 &&& Int32.toUInt32 31)).toInt32) &&& 255) = 0) := by
  have e : (24 : Int32) - 8 * (nI 6 - nI 6 / 4 * 4) = 8 := by decide
  unfold s_X12_byteOf
  rw [if_pos (show (4 : Int32) ≤ nI 6 by decide), if_neg (show ¬ (8 : Int32) ≤ nI 6 by decide), e]
  exact congrArg (fun z => z = 0) (zsh 8 (by decide) p1).symm

theorem zb7 (p0 p1 p2 p3 p4 : Int32) : (s_X12_byteOf p0 p1 p2 p3 p4 (nI 7) = 0) = ((((p1.toUInt32 >>> ((0 : Int32).toUInt32 &&& Int32.toUInt32 31)).toInt32) &&& 255) = 0) := by
  have e : (24 : Int32) - 8 * (nI 7 - nI 7 / 4 * 4) = 0 := by decide
  unfold s_X12_byteOf
  rw [if_pos (show (4 : Int32) ≤ nI 7 by decide), if_neg (show ¬ (8 : Int32) ≤ nI 7 by decide), e]
  exact congrArg (fun z => z = 0) (zsh 0 (by decide) p1).symm

theorem zb8 (p0 p1 p2 p3 p4 : Int32) : (s_X12_byteOf p0 p1 p2 p3 p4 (nI 8) = 0) = ((((p2.toUInt32 >>> ((24 : Int32).toUInt32 &&& Int32.toUInt32 31)).toInt32) &&& 255) = 0) := by
  have e : (24 : Int32) - 8 * (nI 8 - nI 8 / 4 * 4) = 24 := by decide
  unfold s_X12_byteOf
  rw [if_pos (show (4 : Int32) ≤ nI 8 by decide), if_pos (show (8 : Int32) ≤ nI 8 by decide), if_neg (show ¬ (12 : Int32) ≤ nI 8 by decide), e]
  exact congrArg (fun z => z = 0) (zsh 24 (by decide) p2).symm

theorem zb9 (p0 p1 p2 p3 p4 : Int32) : (s_X12_byteOf p0 p1 p2 p3 p4 (nI 9) = 0) = ((((p2.toUInt32 >>> ((16 : Int32).toUInt32 &&& Int32.toUInt32 31)).toInt32) &&& 255) = 0) := by
  have e : (24 : Int32) - 8 * (nI 9 - nI 9 / 4 * 4) = 16 := by decide
  unfold s_X12_byteOf
  rw [if_pos (show (4 : Int32) ≤ nI 9 by decide), if_pos (show (8 : Int32) ≤ nI 9 by decide), if_neg (show ¬ (12 : Int32) ≤ nI 9 by decide), e]
  exact congrArg (fun z => z = 0) (zsh 16 (by decide) p2).symm

theorem zb10 (p0 p1 p2 p3 p4 : Int32) : (s_X12_byteOf p0 p1 p2 p3 p4 (nI 10) = 0) = ((((p2.toUInt32 >>> ((8 : Int32).toUInt32 &&& Int32.toUInt32 31)).toInt32) &&& 255) = 0) := by
  have e : (24 : Int32) - 8 * (nI 10 - nI 10 / 4 * 4) = 8 := by decide
  unfold s_X12_byteOf
  rw [if_pos (show (4 : Int32) ≤ nI 10 by decide), if_pos (show (8 : Int32) ≤ nI 10 by decide), if_neg (show ¬ (12 : Int32) ≤ nI 10 by decide), e]
  exact congrArg (fun z => z = 0) (zsh 8 (by decide) p2).symm

theorem zb11 (p0 p1 p2 p3 p4 : Int32) : (s_X12_byteOf p0 p1 p2 p3 p4 (nI 11) = 0) = ((((p2.toUInt32 >>> ((0 : Int32).toUInt32 &&& Int32.toUInt32 31)).toInt32) &&& 255) = 0) := by
  have e : (24 : Int32) - 8 * (nI 11 - nI 11 / 4 * 4) = 0 := by decide
  unfold s_X12_byteOf
  rw [if_pos (show (4 : Int32) ≤ nI 11 by decide), if_pos (show (8 : Int32) ≤ nI 11 by decide), if_neg (show ¬ (12 : Int32) ≤ nI 11 by decide), e]
  exact congrArg (fun z => z = 0) (zsh 0 (by decide) p2).symm

theorem zb12 (p0 p1 p2 p3 p4 : Int32) : (s_X12_byteOf p0 p1 p2 p3 p4 (nI 12) = 0) = ((((p3.toUInt32 >>> ((24 : Int32).toUInt32 &&& Int32.toUInt32 31)).toInt32) &&& 255) = 0) := by
  have e : (24 : Int32) - 8 * (nI 12 - nI 12 / 4 * 4) = 24 := by decide
  unfold s_X12_byteOf
  rw [if_pos (show (4 : Int32) ≤ nI 12 by decide), if_pos (show (8 : Int32) ≤ nI 12 by decide), if_pos (show (12 : Int32) ≤ nI 12 by decide), if_neg (show ¬ (16 : Int32) ≤ nI 12 by decide), e]
  exact congrArg (fun z => z = 0) (zsh 24 (by decide) p3).symm

theorem zb13 (p0 p1 p2 p3 p4 : Int32) : (s_X12_byteOf p0 p1 p2 p3 p4 (nI 13) = 0) = ((((p3.toUInt32 >>> ((16 : Int32).toUInt32 &&& Int32.toUInt32 31)).toInt32) &&& 255) = 0) := by
  have e : (24 : Int32) - 8 * (nI 13 - nI 13 / 4 * 4) = 16 := by decide
  unfold s_X12_byteOf
  rw [if_pos (show (4 : Int32) ≤ nI 13 by decide), if_pos (show (8 : Int32) ≤ nI 13 by decide), if_pos (show (12 : Int32) ≤ nI 13 by decide), if_neg (show ¬ (16 : Int32) ≤ nI 13 by decide), e]
  exact congrArg (fun z => z = 0) (zsh 16 (by decide) p3).symm

theorem zb14 (p0 p1 p2 p3 p4 : Int32) : (s_X12_byteOf p0 p1 p2 p3 p4 (nI 14) = 0) = ((((p3.toUInt32 >>> ((8 : Int32).toUInt32 &&& Int32.toUInt32 31)).toInt32) &&& 255) = 0) := by
  have e : (24 : Int32) - 8 * (nI 14 - nI 14 / 4 * 4) = 8 := by decide
  unfold s_X12_byteOf
  rw [if_pos (show (4 : Int32) ≤ nI 14 by decide), if_pos (show (8 : Int32) ≤ nI 14 by decide), if_pos (show (12 : Int32) ≤ nI 14 by decide), if_neg (show ¬ (16 : Int32) ≤ nI 14 by decide), e]
  exact congrArg (fun z => z = 0) (zsh 8 (by decide) p3).symm

theorem zb15 (p0 p1 p2 p3 p4 : Int32) : (s_X12_byteOf p0 p1 p2 p3 p4 (nI 15) = 0) = ((((p3.toUInt32 >>> ((0 : Int32).toUInt32 &&& Int32.toUInt32 31)).toInt32) &&& 255) = 0) := by
  have e : (24 : Int32) - 8 * (nI 15 - nI 15 / 4 * 4) = 0 := by decide
  unfold s_X12_byteOf
  rw [if_pos (show (4 : Int32) ≤ nI 15 by decide), if_pos (show (8 : Int32) ≤ nI 15 by decide), if_pos (show (12 : Int32) ≤ nI 15 by decide), if_neg (show ¬ (16 : Int32) ≤ nI 15 by decide), e]
  exact congrArg (fun z => z = 0) (zsh 0 (by decide) p3).symm

theorem zb16 (p0 p1 p2 p3 p4 : Int32) : (s_X12_byteOf p0 p1 p2 p3 p4 (nI 16) = 0) = ((((p4.toUInt32 >>> ((24 : Int32).toUInt32 &&& Int32.toUInt32 31)).toInt32) &&& 255) = 0) := by
  have e : (24 : Int32) - 8 * (nI 16 - nI 16 / 4 * 4) = 24 := by decide
  unfold s_X12_byteOf
  rw [if_pos (show (4 : Int32) ≤ nI 16 by decide), if_pos (show (8 : Int32) ≤ nI 16 by decide), if_pos (show (12 : Int32) ≤ nI 16 by decide), if_pos (show (16 : Int32) ≤ nI 16 by decide), e]
  exact congrArg (fun z => z = 0) (zsh 24 (by decide) p4).symm

theorem zb17 (p0 p1 p2 p3 p4 : Int32) : (s_X12_byteOf p0 p1 p2 p3 p4 (nI 17) = 0) = ((((p4.toUInt32 >>> ((16 : Int32).toUInt32 &&& Int32.toUInt32 31)).toInt32) &&& 255) = 0) := by
  have e : (24 : Int32) - 8 * (nI 17 - nI 17 / 4 * 4) = 16 := by decide
  unfold s_X12_byteOf
  rw [if_pos (show (4 : Int32) ≤ nI 17 by decide), if_pos (show (8 : Int32) ≤ nI 17 by decide), if_pos (show (12 : Int32) ≤ nI 17 by decide), if_pos (show (16 : Int32) ≤ nI 17 by decide), e]
  exact congrArg (fun z => z = 0) (zsh 16 (by decide) p4).symm

theorem zb18 (p0 p1 p2 p3 p4 : Int32) : (s_X12_byteOf p0 p1 p2 p3 p4 (nI 18) = 0) = ((((p4.toUInt32 >>> ((8 : Int32).toUInt32 &&& Int32.toUInt32 31)).toInt32) &&& 255) = 0) := by
  have e : (24 : Int32) - 8 * (nI 18 - nI 18 / 4 * 4) = 8 := by decide
  unfold s_X12_byteOf
  rw [if_pos (show (4 : Int32) ≤ nI 18 by decide), if_pos (show (8 : Int32) ≤ nI 18 by decide), if_pos (show (12 : Int32) ≤ nI 18 by decide), if_pos (show (16 : Int32) ≤ nI 18 by decide), e]
  exact congrArg (fun z => z = 0) (zsh 8 (by decide) p4).symm

theorem zb19 (p0 p1 p2 p3 p4 : Int32) : (s_X12_byteOf p0 p1 p2 p3 p4 (nI 19) = 0) = ((((p4.toUInt32 >>> ((0 : Int32).toUInt32 &&& Int32.toUInt32 31)).toInt32) &&& 255) = 0) := by
  have e : (24 : Int32) - 8 * (nI 19 - nI 19 / 4 * 4) = 0 := by decide
  unfold s_X12_byteOf
  rw [if_pos (show (4 : Int32) ≤ nI 19 by decide), if_pos (show (8 : Int32) ≤ nI 19 by decide), if_pos (show (12 : Int32) ≤ nI 19 by decide), if_pos (show (16 : Int32) ≤ nI 19 by decide), e]
  exact congrArg (fun z => z = 0) (zsh 0 (by decide) p4).symm

theorem zq_feed (p0 p1 p2 p3 p4 : Int32) : s_X11_feed p0 p1 p2 p3 p4 = nI (zmc p0 p1 p2 p3 p4 20) := by
  have h : zmc p0 p1 p2 p3 p4 20 = 0 + zcnt p0 + zcnt p1 + zcnt p2 + zcnt p3 + zcnt p4 := by
    simp only [zmc, zcnt, zb0, zb1, zb2, zb3, zb4, zb5, zb6, zb7, zb8, zb9, zb10, zb11, zb12, zb13, zb14, zb15, zb16, zb17, zb18, zb19, Nat.add_assoc, Nat.zero_add]
  rw [h]
  rfl
theorem zq_law (p0 : Int32) : s_X11_law p0 = s_X12_law p0 := by
  unfold s_X11_law s_X12_law s_X12_in
  by_cases h1 : p0 < -1
  · simp [h1]
  · by_cases h2 : p0 < 0
    · have h3 : ¬ (-1 : Int32) < p0 := fun q => by
        have a := Int32.lt_iff_toInt_lt.mp q
        have b := Int32.lt_iff_toInt_lt.mp h2
        have c1 : (-1 : Int32).toInt = -1 := by decide
        have c2 : (0 : Int32).toInt = 0 := by decide
        omega
      simp [h1, h2, h3]
    · have h3 : (-1 : Int32) < p0 := by
        apply Int32.lt_iff_toInt_lt.mpr
        have b := Int32.le_iff_toInt_le.mp (Int32.not_lt.mp h2)
        have c1 : (-1 : Int32).toInt = -1 := by decide
        have c2 : (0 : Int32).toInt = 0 := by decide
        omega
      simp [h1, h2, h3]
theorem zq_snow (p0 : Int32) : s_X11_snow p0 = s_X12_snow p0 := by
  unfold s_X11_snow s_X12_snow s_X12_in
  by_cases h1 : p0 < 0
  · simp [h1]
  · by_cases h2 : 9 < p0
    · simp [h1, h2]
    · simp [h1, h2]
theorem zq_status (p0 : Int32) : s_X11_status p0 = s_X12_status p0 := by
  unfold s_X11_status s_X12_status s_X12_in
  by_cases h1 : p0 < 0
  · simp [h1]
  · by_cases h2 : p0 < 5
    · have h3 : ¬ 4 < p0 := fun q => by
        have a := Int32.lt_iff_toInt_lt.mp q
        have b := Int32.lt_iff_toInt_lt.mp h2
        have c1 : (4 : Int32).toInt = 4 := by decide
        have c2 : (5 : Int32).toInt = 5 := by decide
        omega
      simp [h1, h2, h3]
    · have h3 : 4 < p0 := by
        apply Int32.lt_iff_toInt_lt.mpr
        have b := Int32.le_iff_toInt_le.mp (Int32.not_lt.mp h2)
        have c1 : (4 : Int32).toInt = 4 := by decide
        have c2 : (5 : Int32).toInt = 5 := by decide
        omega
      simp [h1, h2, h3]
theorem zq_log (p0 : Int32) : s_X11_log p0 = s_X12_log := by
  unfold s_X11_log s_X12_log
  by_cases h1 : p0 < 0
  · simp [h1]
  · simp [h1]

theorem zq_end (p0 : Int32) : s_X11_end p0 = s_X12_end p0 := by
  first | rfl | (unfold s_X11_end s_X12_end; rfl)

theorem zq_fault (p0 : Int32) : s_X11_fault p0 = s_X12_fault p0 := by
  first | rfl | (unfold s_X11_fault s_X12_fault; rfl)

theorem zq_text (p0 : Int32) : s_X11_text p0 = s_X12_text p0 := by
  first | rfl | (unfold s_X11_text s_X12_text; rfl)

theorem zq_rule : s_X11_rule = s_X12_rule := by
  first | rfl | (unfold s_X11_rule s_X12_rule; rfl)

theorem zq_bed : s_X11_bed = s_X12_bed := by
  first | rfl | (unfold s_X11_bed s_X12_bed; rfl)

theorem zq_train : s_X11_train = s_X12_train := by
  first | rfl | (unfold s_X11_train s_X12_train; rfl)

theorem zq_dull : s_X11_dull = s_X12_dull := by
  first | rfl | (unfold s_X11_dull s_X12_dull; rfl)

theorem zq_swap : s_X11_swap = s_X12_swap := by
  first | rfl | (unfold s_X11_swap s_X12_swap; rfl)

theorem zq_nights : s_X11_nights = s_X12_nights := by
  first | rfl | (unfold s_X11_nights s_X12_nights; rfl)

theorem zq_years : s_X11_years = s_X12_years := by
  first | rfl | (unfold s_X11_years s_X12_years; rfl)

theorem zq_undo : s_X11_undo = s_X12_undo := by
  first | rfl | (unfold s_X11_undo s_X12_undo; rfl)

theorem zq_sleeps : s_X11_sleeps = s_X12_sleeps := by
  first | rfl | (unfold s_X11_sleeps s_X12_sleeps; rfl)

theorem zq_dream : s_X11_dream = s_X12_dream := by
  first | rfl | (unfold s_X11_dream s_X12_dream; rfl)

theorem zq_slept : s_X11_slept = s_X12_slept := by
  first | rfl | (unfold s_X11_slept s_X12_slept; rfl)

theorem zq_night : s_X11_night = s_X12_night := by
  first | rfl | (unfold s_X11_night s_X12_night; rfl)

theorem zq_stagger : s_X11_stagger = s_X12_stagger := by
  first | rfl | (unfold s_X11_stagger s_X12_stagger; rfl)

theorem zq_ring : s_X11_ring = s_X12_ring := by
  first | rfl | (unfold s_X11_ring s_X12_ring; rfl)

theorem zq_best : s_X11_best = s_X12_best := by
  first | rfl | (unfold s_X11_best s_X12_best; rfl)

theorem zq_seen : s_X11_seen = s_X12_seen := by
  first | rfl | (unfold s_X11_seen s_X12_seen; rfl)

theorem zq_who : s_X11_who = s_X12_who := by
  first | rfl | (unfold s_X11_who s_X12_who; rfl)

theorem zq_hourToAsk : s_X11_hourToAsk = s_X12_hourToAsk := by
  first | rfl | (unfold s_X11_hourToAsk s_X12_hourToAsk; rfl)

theorem zq_said : s_X11_said = s_X12_said := by
  first | rfl | (unfold s_X11_said s_X12_said; rfl)

theorem zq_liars : s_X11_liars = s_X12_liars := by
  first | rfl | (unfold s_X11_liars s_X12_liars; rfl)

theorem zq_game : s_X11_game = s_X12_game := by
  first | rfl | (unfold s_X11_game s_X12_game; rfl)

theorem zq_rests : s_X11_rests = s_X12_rests := by
  first | rfl | (unfold s_X11_rests s_X12_rests; rfl)

theorem zq_odds : s_X11_odds = s_X12_odds := by
  first | rfl | (unfold s_X11_odds s_X12_odds; rfl)

theorem zq_shares : s_X11_shares = s_X12_shares := by
  first | rfl | (unfold s_X11_shares s_X12_shares; rfl)

theorem zq_watcher : s_X11_watcher = s_X12_watcher := by
  first | rfl | (unfold s_X11_watcher s_X12_watcher; rfl)

theorem zq_awake : s_X11_awake = s_X12_awake := by
  first | rfl | (unfold s_X11_awake s_X12_awake; rfl)

theorem zq_most : s_X11_most = s_X12_most := by
  first | rfl | (unfold s_X11_most s_X12_most; rfl)

theorem zq_spare : s_X11_spare = s_X12_spare := by
  first | rfl | (unfold s_X11_spare s_X12_spare; rfl)

theorem zq_image : s_X11_image = s_X12_image := by
  first | rfl | (unfold s_X11_image s_X12_image; rfl)

theorem zq_back : s_X11_back = s_X12_back := by
  first | rfl | (unfold s_X11_back s_X12_back; rfl)

theorem zq_count (p0 : Int32) : s_X11_count p0 = s_X12_count p0 := by
  first | rfl | (unfold s_X11_count s_X12_count; rfl)
