/-! byteOf's run, step by step -/
abbrev yz (n d mid pc : Nat) (loc : zL) (stk : List zV) (h : zH) : Option (Option zV × zH) := zrun yTab yPI yMl yMr yFld yKI yKL yGst yLdS yFldS yAcp yCal n d mid pc loc stk h
theorem ystp {n d mid pc : Nat} {loc : zL} {stk : List zV} {h : zH} {i : Instr} {q : zN} (hi : yPI mid pc = some i) (hc : zcl yTab yMl yCal mid i stk = none) (he : zend (yMr mid) i stk = none) (hs : zst yTab yFld yKI yKL yGst yLdS yFldS yAcp mid i pc loc stk h = some q) : yz (n + 1) d mid pc loc stk h = yz n d mid q.1 q.2.1 q.2.2.1 q.2.2.2 := by
  show zrun yTab yPI yMl yMr yFld yKI yKL yGst yLdS yFldS yAcp yCal (n + 1) d mid pc loc stk h = _
  rw [zrun]
  simp only [hi, hc, he, hs]
theorem yend {n d mid pc : Nat} {loc : zL} {stk : List zV} {h : zH} {i : Instr} {r : Option zV} (hi : yPI mid pc = some i) (hc : zcl yTab yMl yCal mid i stk = none) (he : zend (yMr mid) i stk = some r) : yz (n + 1) d mid pc loc stk h = some (r, h) := by
  show zrun yTab yPI yMl yMr yFld yKI yKL yGst yLdS yFldS yAcp yCal (n + 1) d mid pc loc stk h = _
  rw [zrun]
  simp only [hi, hc, he]
theorem yst_1 {mid pc : Nat} {loc : zL} {stk : List zV} {h : zH} {i : Instr} {q : zN} (e : zf1 i pc loc stk h = some q) : zst yTab yFld yKI yKL yGst yLdS yFldS yAcp mid i pc loc stk h = some q := by
  unfold zst
  rw [e]
section YBT
variable {n d : Nat} {loc : zL} {stk : List zV} {h : zH}
theorem ybil {mid pc k : Nat} {x : Int32} (hi : yPI mid pc = some (.iload k)) (hk : zget loc k = some (.inl x)) : yz (n + 1) d mid pc loc stk h = yz n d mid (pc + 2) loc (.inl x :: stk) h :=
  ystp (q := (pc + 2, loc, .inl x :: stk, h)) hi rfl rfl (yst_1 (by show zog loc k _ = _; unfold zog; rw [hk]; rfl))
theorem ybin {mid pc : Nat} {k : Fin 4} {x : Int32} (hi : yPI mid pc = some (.iload_n k)) (hk : zget loc k.val = some (.inl x)) : yz (n + 1) d mid pc loc stk h = yz n d mid (pc + 1) loc (.inl x :: stk) h :=
  ystp (q := (pc + 1, loc, .inl x :: stk, h)) hi rfl rfl (yst_1 (by show zog loc k.val _ = _; unfold zog; rw [hk]; rfl))
theorem ybge {mid pc : Nat} {off : Int} {x y : Int32} (hi : yPI mid pc = some (.if_icmp .ge off)) (ho : 0 ≤ (pc : Int) + off) (hxy : y ≤ x) : yz (n + 1) d mid pc loc (.inl y :: .inl x :: stk) h = yz n d mid (ztgt pc off) loc stk h :=
  ystp (q := (ztgt pc off, loc, stk, h)) hi rfl rfl (yst_1 (by
    show zgd (decide (0 ≤ (pc : Int) + off)) (if zk2 .ge x y = true then some (ztgt pc off, loc, stk, h) else some (pc + 3, loc, stk, h)) = _
    unfold zgd
    rw [if_pos (decide_eq_true ho), if_pos (show zk2 .ge x y = true from decide_eq_true hxy)]))
theorem ybgn {mid pc : Nat} {off : Int} {x y : Int32} (hi : yPI mid pc = some (.if_icmp .ge off)) (ho : 0 ≤ (pc : Int) + off) (hxy : ¬ y ≤ x) : yz (n + 1) d mid pc loc (.inl y :: .inl x :: stk) h = yz n d mid (pc + 3) loc stk h :=
  ystp (q := (pc + 3, loc, stk, h)) hi rfl rfl (yst_1 (by
    show zgd (decide (0 ≤ (pc : Int) + off)) (if zk2 .ge x y = true then some (ztgt pc off, loc, stk, h) else some (pc + 3, loc, stk, h)) = _
    unfold zgd
    rw [if_pos (decide_eq_true ho), if_neg (fun e => hxy (of_decide_eq_true (show decide (y ≤ x) = true from e)))]))
theorem ybgo {mid pc : Nat} {off : Int} (hi : yPI mid pc = some (.goto off)) (ho : 0 ≤ (pc : Int) + off) : yz (n + 1) d mid pc loc stk h = yz n d mid (ztgt pc off) loc stk h :=
  ystp (q := (ztgt pc off, loc, stk, h)) hi rfl rfl (yst_1 (by
    show zj pc off loc stk h = _
    unfold zj
    rw [if_pos ho]))
end YBT
def yar (a b c d e : Int32) (j : Nat) : Int32 := if j = 0 then a else if j = 1 then b else if j = 2 then c else if j = 3 then d else e
def ybl (a b c d e k : Int32) (r : List zV) : zL := (0, .inl a) :: (1, .inl b) :: (2, .inl c) :: (3, .inl d) :: (4, .inl e) :: (5, .inl k) :: zent 6 r
/-- from the word on -/
theorem ybtl (a b c d e k w : Int32) (r : List zV) (n dd : Nat) (h : zH) : yz (n + 13) dd 110 45 (ybl a b c d e k r) [.inl w] h = some (some (.inl ((w >>> (((Int8.ofInt 24).toInt32 - (Int8.ofInt 8).toInt32 * (k - k / Int32.ofInt 4 * Int32.ofInt 4)) &&& 31)) &&& (Int16.ofInt 255).toInt32)), h) := by
  refine (ystp (i := .istore 6) (by decide +kernel) rfl rfl (yst_1 rfl)).trans ?_
  refine (ybil (k := 6) (by decide +kernel) rfl).trans ?_
  refine (ystp (i := .bipush 24) (by decide +kernel) rfl rfl (yst_1 rfl)).trans ?_
  refine (ystp (i := .bipush 8) (by decide +kernel) rfl rfl (yst_1 rfl)).trans ?_
  refine (ybil (k := 5) (by decide +kernel) rfl).trans ?_
  refine (ystp (i := .iconst 4) (by decide +kernel) rfl rfl (yst_1 rfl)).trans ?_
  refine (ystp (i := .irem) (q := (57, zput1 (ybl a b c d e k r) 6 (.inl w), .inl (k - k / Int32.ofInt 4 * Int32.ofInt 4) :: .inl (Int8.ofInt 8).toInt32 :: .inl (Int8.ofInt 24).toInt32 :: .inl w :: [], h)) (by decide +kernel) rfl rfl (yst_1 (by
    show zgd (decide (¬ Int32.ofInt 4 = 0)) (some (57, zput1 (ybl a b c d e k r) 6 (.inl w), .inl (k - k / Int32.ofInt 4 * Int32.ofInt 4) :: .inl (Int8.ofInt 8).toInt32 :: .inl (Int8.ofInt 24).toInt32 :: .inl w :: [], h)) = _
    unfold zgd
    rw [if_pos (by decide +kernel)]))).trans ?_
  refine (ystp (i := .imul) (by decide +kernel) rfl rfl (yst_1 rfl)).trans ?_
  refine (ystp (i := .isub) (by decide +kernel) rfl rfl (yst_1 rfl)).trans ?_
  refine (ystp (i := .ishr) (by decide +kernel) rfl rfl (yst_1 rfl)).trans ?_
  refine (ystp (i := .sipush 255) (by decide +kernel) rfl rfl (yst_1 rfl)).trans ?_
  refine (ystp (i := .iand) (by decide +kernel) rfl rfl (yst_1 rfl)).trans ?_
  exact yend (i := .ireturn) (by decide +kernel) rfl rfl
/-- the word -/
theorem ybhd (a b c d e k : Int32) (r : List zV) (n dd : Nat) (h : zH) (q : Nat) (hq : q < 20) (hk : k.toInt = q) : ∃ m, yz (n + m) dd 110 0 (ybl a b c d e k r) [] h = yz n dd 110 45 (ybl a b c d e k r) [.inl (ybw (yar a b c d e) q)] h := by
  have c4 : (Int32.ofInt 4 ≤ k) ↔ 4 ≤ q := by rw [Int32.le_iff_toInt_le, hk]; show (4 : Int) ≤ q ↔ _; omega
  have c8 : ((Int8.ofInt 8).toInt32 ≤ k) ↔ 8 ≤ q := by rw [Int32.le_iff_toInt_le, hk]; show (8 : Int) ≤ q ↔ _; omega
  have c12 : ((Int8.ofInt 12).toInt32 ≤ k) ↔ 12 ≤ q := by rw [Int32.le_iff_toInt_le, hk]; show (12 : Int) ≤ q ↔ _; omega
  have c16 : ((Int8.ofInt 16).toInt32 ≤ k) ↔ 16 ≤ q := by rw [Int32.le_iff_toInt_le, hk]; show (16 : Int) ≤ q ↔ _; omega
  unfold ybw
  by_cases h4 : q < 4
  · rw [if_pos h4]
    refine ⟨5, ?_⟩
    refine (ybil (k := 5) (by decide +kernel) rfl).trans ?_
    refine (ystp (i := .iconst 4) (by decide +kernel) rfl rfl (yst_1 rfl)).trans ?_
    refine (ybgn (off := 7) (by decide +kernel) (by decide) (fun e => by have := c4.mp e; omega)).trans ?_
    refine (ybin (k := 0) (by decide +kernel) rfl).trans ?_
    exact ybgo (off := 38) (by decide +kernel) (by decide)
  rw [if_neg h4]
  by_cases h8 : q < 8
  · rw [if_pos h8]
    refine ⟨8, ?_⟩
    refine (ybil (k := 5) (by decide +kernel) rfl).trans ?_
    refine (ystp (i := .iconst 4) (by decide +kernel) rfl rfl (yst_1 rfl)).trans ?_
    refine (ybge (off := 7) (by decide +kernel) (by decide) (c4.mpr (by omega))).trans ?_
    refine (ybil (k := 5) (by decide +kernel) rfl).trans ?_
    refine (ystp (i := .bipush 8) (by decide +kernel) rfl rfl (yst_1 rfl)).trans ?_
    refine (ybgn (off := 7) (by decide +kernel) (by decide) (fun e => by have := c8.mp e; omega)).trans ?_
    refine (ybin (k := 1) (by decide +kernel) rfl).trans ?_
    exact ybgo (off := 27) (by decide +kernel) (by decide)
  rw [if_neg h8]
  by_cases h12 : q < 12
  · rw [if_pos h12]
    refine ⟨11, ?_⟩
    refine (ybil (k := 5) (by decide +kernel) rfl).trans ?_
    refine (ystp (i := .iconst 4) (by decide +kernel) rfl rfl (yst_1 rfl)).trans ?_
    refine (ybge (off := 7) (by decide +kernel) (by decide) (c4.mpr (by omega))).trans ?_
    refine (ybil (k := 5) (by decide +kernel) rfl).trans ?_
    refine (ystp (i := .bipush 8) (by decide +kernel) rfl rfl (yst_1 rfl)).trans ?_
    refine (ybge (off := 7) (by decide +kernel) (by decide) (c8.mpr (by omega))).trans ?_
    refine (ybil (k := 5) (by decide +kernel) rfl).trans ?_
    refine (ystp (i := .bipush 12) (by decide +kernel) rfl rfl (yst_1 rfl)).trans ?_
    refine (ybgn (off := 7) (by decide +kernel) (by decide) (fun e => by have := c12.mp e; omega)).trans ?_
    refine (ybin (k := 2) (by decide +kernel) rfl).trans ?_
    exact ybgo (off := 16) (by decide +kernel) (by decide)
  rw [if_neg h12]
  by_cases h16 : q < 16
  · rw [if_pos h16]
    refine ⟨14, ?_⟩
    refine (ybil (k := 5) (by decide +kernel) rfl).trans ?_
    refine (ystp (i := .iconst 4) (by decide +kernel) rfl rfl (yst_1 rfl)).trans ?_
    refine (ybge (off := 7) (by decide +kernel) (by decide) (c4.mpr (by omega))).trans ?_
    refine (ybil (k := 5) (by decide +kernel) rfl).trans ?_
    refine (ystp (i := .bipush 8) (by decide +kernel) rfl rfl (yst_1 rfl)).trans ?_
    refine (ybge (off := 7) (by decide +kernel) (by decide) (c8.mpr (by omega))).trans ?_
    refine (ybil (k := 5) (by decide +kernel) rfl).trans ?_
    refine (ystp (i := .bipush 12) (by decide +kernel) rfl rfl (yst_1 rfl)).trans ?_
    refine (ybge (off := 7) (by decide +kernel) (by decide) (c12.mpr (by omega))).trans ?_
    refine (ybil (k := 5) (by decide +kernel) rfl).trans ?_
    refine (ystp (i := .bipush 16) (by decide +kernel) rfl rfl (yst_1 rfl)).trans ?_
    refine (ybgn (off := 7) (by decide +kernel) (by decide) (fun e => by have := c16.mp e; omega)).trans ?_
    refine (ybin (k := 3) (by decide +kernel) rfl).trans ?_
    exact ybgo (off := 5) (by decide +kernel) (by decide)
  rw [if_neg h16]
  refine ⟨13, ?_⟩
  refine (ybil (k := 5) (by decide +kernel) rfl).trans ?_
  refine (ystp (i := .iconst 4) (by decide +kernel) rfl rfl (yst_1 rfl)).trans ?_
  refine (ybge (off := 7) (by decide +kernel) (by decide) (c4.mpr (by omega))).trans ?_
  refine (ybil (k := 5) (by decide +kernel) rfl).trans ?_
  refine (ystp (i := .bipush 8) (by decide +kernel) rfl rfl (yst_1 rfl)).trans ?_
  refine (ybge (off := 7) (by decide +kernel) (by decide) (c8.mpr (by omega))).trans ?_
  refine (ybil (k := 5) (by decide +kernel) rfl).trans ?_
  refine (ystp (i := .bipush 12) (by decide +kernel) rfl rfl (yst_1 rfl)).trans ?_
  refine (ybge (off := 7) (by decide +kernel) (by decide) (c12.mpr (by omega))).trans ?_
  refine (ybil (k := 5) (by decide +kernel) rfl).trans ?_
  refine (ystp (i := .bipush 16) (by decide +kernel) rfl rfl (yst_1 rfl)).trans ?_
  refine (ybge (off := 7) (by decide +kernel) (by decide) (c16.mpr (by omega))).trans ?_
  exact ybil (k := 4) (by decide +kernel) rfl
/-! byteOf, by hand -/
theorem yarg {args : List zV} {k : Nat} {x : Int32} (h : zget (zent k args) k = some (.inl x)) : ∃ r, args = .inl x :: r ∧ ∀ j, j ≠ k → zget (zent k args) j = zget (zent (k + 1) r) j := by
  match args, h with
  | v :: r, h =>
    have e : zget (zent k (v :: r)) k = some v := by
      unfold zent zget
      rw [List.find?_cons_of_pos (by simp)]
      rfl
    rw [e] at h
    cases h
    refine ⟨r, rfl, ?_⟩
    intro j hj
    show zget ((k, .inl x) :: zent (k + 1) r) j = _
    unfold zget
    rw [List.find?_cons_of_neg (by simp; omega)]
theorem ybyte0 (a b c d e : Int32) (r : List zV) (dd : Nat) (h : zH) : ∃ m, yrun m dd yT12.1 (.inl a :: .inl b :: .inl c :: .inl d :: .inl e :: .inl 0 :: r) h = some (some (.inl (yby (yar a b c d e) 0)), h) := by
  obtain ⟨m, e1⟩ := ybhd a b c d e 0 r 13 dd h 0 (by decide) (by decide)
  refine ⟨13 + m, e1.trans ((ybtl a b c d e 0 _ r 0 dd h).trans ?_)⟩
  unfold yby
  rw [show ((Int8.ofInt 24).toInt32 - (Int8.ofInt 8).toInt32 * ((0 : Int32) - 0 / Int32.ofInt 4 * Int32.ofInt 4)) &&& 31 = Int32.ofNat (24 - 8 * (0 % 4)) &&& 31 by decide +kernel, show (Int16.ofInt 255).toInt32 = 255 by decide +kernel]
theorem ybyte1 (a b c d e : Int32) (r : List zV) (dd : Nat) (h : zH) : ∃ m, yrun m dd yT13.1 (.inl a :: .inl b :: .inl c :: .inl d :: .inl e :: .inl 1 :: r) h = some (some (.inl (yby (yar a b c d e) 1)), h) := by
  obtain ⟨m, e1⟩ := ybhd a b c d e 1 r 13 dd h 1 (by decide) (by decide)
  refine ⟨13 + m, e1.trans ((ybtl a b c d e 1 _ r 0 dd h).trans ?_)⟩
  unfold yby
  rw [show ((Int8.ofInt 24).toInt32 - (Int8.ofInt 8).toInt32 * ((1 : Int32) - 1 / Int32.ofInt 4 * Int32.ofInt 4)) &&& 31 = Int32.ofNat (24 - 8 * (1 % 4)) &&& 31 by decide +kernel, show (Int16.ofInt 255).toInt32 = 255 by decide +kernel]
theorem ybyte2 (a b c d e : Int32) (r : List zV) (dd : Nat) (h : zH) : ∃ m, yrun m dd yT14.1 (.inl a :: .inl b :: .inl c :: .inl d :: .inl e :: .inl 2 :: r) h = some (some (.inl (yby (yar a b c d e) 2)), h) := by
  obtain ⟨m, e1⟩ := ybhd a b c d e 2 r 13 dd h 2 (by decide) (by decide)
  refine ⟨13 + m, e1.trans ((ybtl a b c d e 2 _ r 0 dd h).trans ?_)⟩
  unfold yby
  rw [show ((Int8.ofInt 24).toInt32 - (Int8.ofInt 8).toInt32 * ((2 : Int32) - 2 / Int32.ofInt 4 * Int32.ofInt 4)) &&& 31 = Int32.ofNat (24 - 8 * (2 % 4)) &&& 31 by decide +kernel, show (Int16.ofInt 255).toInt32 = 255 by decide +kernel]
theorem ybyte3 (a b c d e : Int32) (r : List zV) (dd : Nat) (h : zH) : ∃ m, yrun m dd yT15.1 (.inl a :: .inl b :: .inl c :: .inl d :: .inl e :: .inl 3 :: r) h = some (some (.inl (yby (yar a b c d e) 3)), h) := by
  obtain ⟨m, e1⟩ := ybhd a b c d e 3 r 13 dd h 3 (by decide) (by decide)
  refine ⟨13 + m, e1.trans ((ybtl a b c d e 3 _ r 0 dd h).trans ?_)⟩
  unfold yby
  rw [show ((Int8.ofInt 24).toInt32 - (Int8.ofInt 8).toInt32 * ((3 : Int32) - 3 / Int32.ofInt 4 * Int32.ofInt 4)) &&& 31 = Int32.ofNat (24 - 8 * (3 % 4)) &&& 31 by decide +kernel, show (Int16.ofInt 255).toInt32 = 255 by decide +kernel]
theorem ybyte4 (a b c d e : Int32) (r : List zV) (dd : Nat) (h : zH) : ∃ m, yrun m dd yT16.1 (.inl a :: .inl b :: .inl c :: .inl d :: .inl e :: .inl 4 :: r) h = some (some (.inl (yby (yar a b c d e) 4)), h) := by
  obtain ⟨m, e1⟩ := ybhd a b c d e 4 r 13 dd h 4 (by decide) (by decide)
  refine ⟨13 + m, e1.trans ((ybtl a b c d e 4 _ r 0 dd h).trans ?_)⟩
  unfold yby
  rw [show ((Int8.ofInt 24).toInt32 - (Int8.ofInt 8).toInt32 * ((4 : Int32) - 4 / Int32.ofInt 4 * Int32.ofInt 4)) &&& 31 = Int32.ofNat (24 - 8 * (4 % 4)) &&& 31 by decide +kernel, show (Int16.ofInt 255).toInt32 = 255 by decide +kernel]
theorem ybyte5 (a b c d e : Int32) (r : List zV) (dd : Nat) (h : zH) : ∃ m, yrun m dd yT17.1 (.inl a :: .inl b :: .inl c :: .inl d :: .inl e :: .inl 5 :: r) h = some (some (.inl (yby (yar a b c d e) 5)), h) := by
  obtain ⟨m, e1⟩ := ybhd a b c d e 5 r 13 dd h 5 (by decide) (by decide)
  refine ⟨13 + m, e1.trans ((ybtl a b c d e 5 _ r 0 dd h).trans ?_)⟩
  unfold yby
  rw [show ((Int8.ofInt 24).toInt32 - (Int8.ofInt 8).toInt32 * ((5 : Int32) - 5 / Int32.ofInt 4 * Int32.ofInt 4)) &&& 31 = Int32.ofNat (24 - 8 * (5 % 4)) &&& 31 by decide +kernel, show (Int16.ofInt 255).toInt32 = 255 by decide +kernel]
theorem ybyte6 (a b c d e : Int32) (r : List zV) (dd : Nat) (h : zH) : ∃ m, yrun m dd yT18.1 (.inl a :: .inl b :: .inl c :: .inl d :: .inl e :: .inl 6 :: r) h = some (some (.inl (yby (yar a b c d e) 6)), h) := by
  obtain ⟨m, e1⟩ := ybhd a b c d e 6 r 13 dd h 6 (by decide) (by decide)
  refine ⟨13 + m, e1.trans ((ybtl a b c d e 6 _ r 0 dd h).trans ?_)⟩
  unfold yby
  rw [show ((Int8.ofInt 24).toInt32 - (Int8.ofInt 8).toInt32 * ((6 : Int32) - 6 / Int32.ofInt 4 * Int32.ofInt 4)) &&& 31 = Int32.ofNat (24 - 8 * (6 % 4)) &&& 31 by decide +kernel, show (Int16.ofInt 255).toInt32 = 255 by decide +kernel]
theorem ybyte7 (a b c d e : Int32) (r : List zV) (dd : Nat) (h : zH) : ∃ m, yrun m dd yT19.1 (.inl a :: .inl b :: .inl c :: .inl d :: .inl e :: .inl 7 :: r) h = some (some (.inl (yby (yar a b c d e) 7)), h) := by
  obtain ⟨m, e1⟩ := ybhd a b c d e 7 r 13 dd h 7 (by decide) (by decide)
  refine ⟨13 + m, e1.trans ((ybtl a b c d e 7 _ r 0 dd h).trans ?_)⟩
  unfold yby
  rw [show ((Int8.ofInt 24).toInt32 - (Int8.ofInt 8).toInt32 * ((7 : Int32) - 7 / Int32.ofInt 4 * Int32.ofInt 4)) &&& 31 = Int32.ofNat (24 - 8 * (7 % 4)) &&& 31 by decide +kernel, show (Int16.ofInt 255).toInt32 = 255 by decide +kernel]
theorem ybyte8 (a b c d e : Int32) (r : List zV) (dd : Nat) (h : zH) : ∃ m, yrun m dd yT20.1 (.inl a :: .inl b :: .inl c :: .inl d :: .inl e :: .inl 8 :: r) h = some (some (.inl (yby (yar a b c d e) 8)), h) := by
  obtain ⟨m, e1⟩ := ybhd a b c d e 8 r 13 dd h 8 (by decide) (by decide)
  refine ⟨13 + m, e1.trans ((ybtl a b c d e 8 _ r 0 dd h).trans ?_)⟩
  unfold yby
  rw [show ((Int8.ofInt 24).toInt32 - (Int8.ofInt 8).toInt32 * ((8 : Int32) - 8 / Int32.ofInt 4 * Int32.ofInt 4)) &&& 31 = Int32.ofNat (24 - 8 * (8 % 4)) &&& 31 by decide +kernel, show (Int16.ofInt 255).toInt32 = 255 by decide +kernel]
theorem ybyte9 (a b c d e : Int32) (r : List zV) (dd : Nat) (h : zH) : ∃ m, yrun m dd yT21.1 (.inl a :: .inl b :: .inl c :: .inl d :: .inl e :: .inl 9 :: r) h = some (some (.inl (yby (yar a b c d e) 9)), h) := by
  obtain ⟨m, e1⟩ := ybhd a b c d e 9 r 13 dd h 9 (by decide) (by decide)
  refine ⟨13 + m, e1.trans ((ybtl a b c d e 9 _ r 0 dd h).trans ?_)⟩
  unfold yby
  rw [show ((Int8.ofInt 24).toInt32 - (Int8.ofInt 8).toInt32 * ((9 : Int32) - 9 / Int32.ofInt 4 * Int32.ofInt 4)) &&& 31 = Int32.ofNat (24 - 8 * (9 % 4)) &&& 31 by decide +kernel, show (Int16.ofInt 255).toInt32 = 255 by decide +kernel]
theorem ybyte10 (a b c d e : Int32) (r : List zV) (dd : Nat) (h : zH) : ∃ m, yrun m dd yT22.1 (.inl a :: .inl b :: .inl c :: .inl d :: .inl e :: .inl 10 :: r) h = some (some (.inl (yby (yar a b c d e) 10)), h) := by
  obtain ⟨m, e1⟩ := ybhd a b c d e 10 r 13 dd h 10 (by decide) (by decide)
  refine ⟨13 + m, e1.trans ((ybtl a b c d e 10 _ r 0 dd h).trans ?_)⟩
  unfold yby
  rw [show ((Int8.ofInt 24).toInt32 - (Int8.ofInt 8).toInt32 * ((10 : Int32) - 10 / Int32.ofInt 4 * Int32.ofInt 4)) &&& 31 = Int32.ofNat (24 - 8 * (10 % 4)) &&& 31 by decide +kernel, show (Int16.ofInt 255).toInt32 = 255 by decide +kernel]
theorem ybyte11 (a b c d e : Int32) (r : List zV) (dd : Nat) (h : zH) : ∃ m, yrun m dd yT23.1 (.inl a :: .inl b :: .inl c :: .inl d :: .inl e :: .inl 11 :: r) h = some (some (.inl (yby (yar a b c d e) 11)), h) := by
  obtain ⟨m, e1⟩ := ybhd a b c d e 11 r 13 dd h 11 (by decide) (by decide)
  refine ⟨13 + m, e1.trans ((ybtl a b c d e 11 _ r 0 dd h).trans ?_)⟩
  unfold yby
  rw [show ((Int8.ofInt 24).toInt32 - (Int8.ofInt 8).toInt32 * ((11 : Int32) - 11 / Int32.ofInt 4 * Int32.ofInt 4)) &&& 31 = Int32.ofNat (24 - 8 * (11 % 4)) &&& 31 by decide +kernel, show (Int16.ofInt 255).toInt32 = 255 by decide +kernel]
theorem ybyte12 (a b c d e : Int32) (r : List zV) (dd : Nat) (h : zH) : ∃ m, yrun m dd yT24.1 (.inl a :: .inl b :: .inl c :: .inl d :: .inl e :: .inl 12 :: r) h = some (some (.inl (yby (yar a b c d e) 12)), h) := by
  obtain ⟨m, e1⟩ := ybhd a b c d e 12 r 13 dd h 12 (by decide) (by decide)
  refine ⟨13 + m, e1.trans ((ybtl a b c d e 12 _ r 0 dd h).trans ?_)⟩
  unfold yby
  rw [show ((Int8.ofInt 24).toInt32 - (Int8.ofInt 8).toInt32 * ((12 : Int32) - 12 / Int32.ofInt 4 * Int32.ofInt 4)) &&& 31 = Int32.ofNat (24 - 8 * (12 % 4)) &&& 31 by decide +kernel, show (Int16.ofInt 255).toInt32 = 255 by decide +kernel]
theorem ybyte13 (a b c d e : Int32) (r : List zV) (dd : Nat) (h : zH) : ∃ m, yrun m dd yT25.1 (.inl a :: .inl b :: .inl c :: .inl d :: .inl e :: .inl 13 :: r) h = some (some (.inl (yby (yar a b c d e) 13)), h) := by
  obtain ⟨m, e1⟩ := ybhd a b c d e 13 r 13 dd h 13 (by decide) (by decide)
  refine ⟨13 + m, e1.trans ((ybtl a b c d e 13 _ r 0 dd h).trans ?_)⟩
  unfold yby
  rw [show ((Int8.ofInt 24).toInt32 - (Int8.ofInt 8).toInt32 * ((13 : Int32) - 13 / Int32.ofInt 4 * Int32.ofInt 4)) &&& 31 = Int32.ofNat (24 - 8 * (13 % 4)) &&& 31 by decide +kernel, show (Int16.ofInt 255).toInt32 = 255 by decide +kernel]
theorem ybyte14 (a b c d e : Int32) (r : List zV) (dd : Nat) (h : zH) : ∃ m, yrun m dd yT26.1 (.inl a :: .inl b :: .inl c :: .inl d :: .inl e :: .inl 14 :: r) h = some (some (.inl (yby (yar a b c d e) 14)), h) := by
  obtain ⟨m, e1⟩ := ybhd a b c d e 14 r 13 dd h 14 (by decide) (by decide)
  refine ⟨13 + m, e1.trans ((ybtl a b c d e 14 _ r 0 dd h).trans ?_)⟩
  unfold yby
  rw [show ((Int8.ofInt 24).toInt32 - (Int8.ofInt 8).toInt32 * ((14 : Int32) - 14 / Int32.ofInt 4 * Int32.ofInt 4)) &&& 31 = Int32.ofNat (24 - 8 * (14 % 4)) &&& 31 by decide +kernel, show (Int16.ofInt 255).toInt32 = 255 by decide +kernel]
theorem ybyte15 (a b c d e : Int32) (r : List zV) (dd : Nat) (h : zH) : ∃ m, yrun m dd yT27.1 (.inl a :: .inl b :: .inl c :: .inl d :: .inl e :: .inl 15 :: r) h = some (some (.inl (yby (yar a b c d e) 15)), h) := by
  obtain ⟨m, e1⟩ := ybhd a b c d e 15 r 13 dd h 15 (by decide) (by decide)
  refine ⟨13 + m, e1.trans ((ybtl a b c d e 15 _ r 0 dd h).trans ?_)⟩
  unfold yby
  rw [show ((Int8.ofInt 24).toInt32 - (Int8.ofInt 8).toInt32 * ((15 : Int32) - 15 / Int32.ofInt 4 * Int32.ofInt 4)) &&& 31 = Int32.ofNat (24 - 8 * (15 % 4)) &&& 31 by decide +kernel, show (Int16.ofInt 255).toInt32 = 255 by decide +kernel]
theorem ybyte16 (a b c d e : Int32) (r : List zV) (dd : Nat) (h : zH) : ∃ m, yrun m dd yT28.1 (.inl a :: .inl b :: .inl c :: .inl d :: .inl e :: .inl 16 :: r) h = some (some (.inl (yby (yar a b c d e) 16)), h) := by
  obtain ⟨m, e1⟩ := ybhd a b c d e 16 r 13 dd h 16 (by decide) (by decide)
  refine ⟨13 + m, e1.trans ((ybtl a b c d e 16 _ r 0 dd h).trans ?_)⟩
  unfold yby
  rw [show ((Int8.ofInt 24).toInt32 - (Int8.ofInt 8).toInt32 * ((16 : Int32) - 16 / Int32.ofInt 4 * Int32.ofInt 4)) &&& 31 = Int32.ofNat (24 - 8 * (16 % 4)) &&& 31 by decide +kernel, show (Int16.ofInt 255).toInt32 = 255 by decide +kernel]
theorem ybyte17 (a b c d e : Int32) (r : List zV) (dd : Nat) (h : zH) : ∃ m, yrun m dd yT29.1 (.inl a :: .inl b :: .inl c :: .inl d :: .inl e :: .inl 17 :: r) h = some (some (.inl (yby (yar a b c d e) 17)), h) := by
  obtain ⟨m, e1⟩ := ybhd a b c d e 17 r 13 dd h 17 (by decide) (by decide)
  refine ⟨13 + m, e1.trans ((ybtl a b c d e 17 _ r 0 dd h).trans ?_)⟩
  unfold yby
  rw [show ((Int8.ofInt 24).toInt32 - (Int8.ofInt 8).toInt32 * ((17 : Int32) - 17 / Int32.ofInt 4 * Int32.ofInt 4)) &&& 31 = Int32.ofNat (24 - 8 * (17 % 4)) &&& 31 by decide +kernel, show (Int16.ofInt 255).toInt32 = 255 by decide +kernel]
theorem ybyte18 (a b c d e : Int32) (r : List zV) (dd : Nat) (h : zH) : ∃ m, yrun m dd yT30.1 (.inl a :: .inl b :: .inl c :: .inl d :: .inl e :: .inl 18 :: r) h = some (some (.inl (yby (yar a b c d e) 18)), h) := by
  obtain ⟨m, e1⟩ := ybhd a b c d e 18 r 13 dd h 18 (by decide) (by decide)
  refine ⟨13 + m, e1.trans ((ybtl a b c d e 18 _ r 0 dd h).trans ?_)⟩
  unfold yby
  rw [show ((Int8.ofInt 24).toInt32 - (Int8.ofInt 8).toInt32 * ((18 : Int32) - 18 / Int32.ofInt 4 * Int32.ofInt 4)) &&& 31 = Int32.ofNat (24 - 8 * (18 % 4)) &&& 31 by decide +kernel, show (Int16.ofInt 255).toInt32 = 255 by decide +kernel]
theorem ybyte19 (a b c d e : Int32) (r : List zV) (dd : Nat) (h : zH) : ∃ m, yrun m dd yT31.1 (.inl a :: .inl b :: .inl c :: .inl d :: .inl e :: .inl 19 :: r) h = some (some (.inl (yby (yar a b c d e) 19)), h) := by
  obtain ⟨m, e1⟩ := ybhd a b c d e 19 r 13 dd h 19 (by decide) (by decide)
  refine ⟨13 + m, e1.trans ((ybtl a b c d e 19 _ r 0 dd h).trans ?_)⟩
  unfold yby
  rw [show ((Int8.ofInt 24).toInt32 - (Int8.ofInt 8).toInt32 * ((19 : Int32) - 19 / Int32.ofInt 4 * Int32.ofInt 4)) &&& 31 = Int32.ofNat (24 - 8 * (19 % 4)) &&& 31 by decide +kernel, show (Int16.ofInt 255).toInt32 = 255 by decide +kernel]
theorem yby_c {ar ar' : Nat → Int32} (h0 : ar 0 = ar' 0) (h1 : ar 1 = ar' 1) (h2 : ar 2 = ar' 2) (h3 : ar 3 = ar' 3) (h4 : ar 4 = ar' 4) (k : Nat) : yby ar k = yby ar' k := by
  unfold yby ybw
  rw [h0, h1, h2, h3, h4]
theorem yby_b (ar : Nat → Int32) (k : Nat) : 0 ≤ (yby ar k).toInt ∧ (yby ar k).toInt ≤ 255 := by
  unfold yby
  exact sand32 _ _ (by decide)
theorem yT12_ok {t s : Nat} (ht : t < 5) {c0 v0 : Nat → Int} {ar : Nat → Int32} : ySum (yGv t s c0 v0 ar) yT12 := by
  intro args h ρ ρ0 hG hM d hd
  obtain ⟨-, ⟨⟨x0, x1, x2⟩, ⟨y0, y1, y2⟩, ⟨z0, z1, z2⟩, ⟨w0, w1, w2⟩, ⟨u0, u1, u2⟩, ⟨k0, k1, k2⟩, m0, m1, m2, m3, m4, m5, -⟩, ⟨-, -, -, -, -, b5, -⟩, ⟨e0, f0, e1, f1, e2, f2, e3, f3, e4, f4, -⟩, ⟨-, -, -, -, -, -, -, -, -, -, -, p11, -⟩, -⟩ := yun hM
  have g0 : (ar 0).toInt = sv ρ (sY 6) := ysm_gu (a := 15) m0
  have g1 : (ar 1).toInt = sv ρ (sY 7) := ysm_gu (a := 16) m1
  have g2 : (ar 2).toInt = sv ρ (sY 8) := ysm_gu (a := 17) m2
  have g3 : (ar 3).toInt = sv ρ (sY 9) := ysm_gu (a := 18) m3
  have g4 : (ar 4).toInt = sv ρ (sY 10) := ysm_gu (a := 19) m4
  have g5 : (if yby ar 0 = 0 then (0 : Int) else 1) = sv ρ (sY 11) := ysm_gu (a := 20) m5
  rw [sY_v] at g0 g1 g2 g3 g4 g5
  have x2 : x0.toInt = ρ 0 := x2
  have y2 : y0.toInt = ρ 1 := y2
  have z2 : z0.toInt = ρ 2 := z2
  have w2 : w0.toInt = ρ 3 := w2
  have u2 : u0.toInt = ρ 4 := u2
  have k2 : k0.toInt = ρ 5 := k2
  have b5 : 0 ≤ ρ 5 ∧ ρ 5 ≤ 0 := b5
  have e0 : 0 + (1 * ρ 0 + (-1 * ρ 6 + 0)) ≤ 0 := e0
  have f0 : 0 + (-1 * ρ 0 + (1 * ρ 6 + 0)) ≤ 0 := f0
  have e1 : 0 + (1 * ρ 1 + (-1 * ρ 7 + 0)) ≤ 0 := e1
  have f1 : 0 + (-1 * ρ 1 + (1 * ρ 7 + 0)) ≤ 0 := f1
  have e2 : 0 + (1 * ρ 2 + (-1 * ρ 8 + 0)) ≤ 0 := e2
  have f2 : 0 + (-1 * ρ 2 + (1 * ρ 8 + 0)) ≤ 0 := f2
  have e3 : 0 + (1 * ρ 3 + (-1 * ρ 9 + 0)) ≤ 0 := e3
  have f3 : 0 + (-1 * ρ 3 + (1 * ρ 9 + 0)) ≤ 0 := f3
  have e4 : 0 + (1 * ρ 4 + (-1 * ρ 10 + 0)) ≤ 0 := e4
  have f4 : 0 + (-1 * ρ 4 + (1 * ρ 10 + 0)) ≤ 0 := f4
  have p11 : ρ0 12 = ρ 11 := p11
  have q0 : x0 = ar 0 := Int32.toInt_inj.mp (by omega)
  have q1 : y0 = ar 1 := Int32.toInt_inj.mp (by omega)
  have q2 : z0 = ar 2 := Int32.toInt_inj.mp (by omega)
  have q3 : w0 = ar 3 := Int32.toInt_inj.mp (by omega)
  have q4 : u0 = ar 4 := Int32.toInt_inj.mp (by omega)
  have q5 : k0 = 0 := Int32.toInt_inj.mp (by rw [k2]; show _ = (0 : Int); omega)
  obtain ⟨r1, rfl, s1⟩ := yarg x1
  rw [s1 1 (by decide)] at y1
  rw [s1 2 (by decide)] at z1
  rw [s1 3 (by decide)] at w1
  rw [s1 4 (by decide)] at u1
  rw [s1 5 (by decide)] at k1
  obtain ⟨r2, rfl, s2⟩ := yarg y1
  rw [s2 2 (by decide)] at z1
  rw [s2 3 (by decide)] at w1
  rw [s2 4 (by decide)] at u1
  rw [s2 5 (by decide)] at k1
  obtain ⟨r3, rfl, s3⟩ := yarg z1
  rw [s3 3 (by decide)] at w1
  rw [s3 4 (by decide)] at u1
  rw [s3 5 (by decide)] at k1
  obtain ⟨r4, rfl, s4⟩ := yarg w1
  rw [s4 4 (by decide)] at u1
  rw [s4 5 (by decide)] at k1
  obtain ⟨r5, rfl, s5⟩ := yarg u1
  rw [s5 5 (by decide)] at k1
  obtain ⟨r6, rfl, s6⟩ := yarg k1
  obtain ⟨mm, run⟩ := ybyte0 x0 y0 z0 w0 u0 r6 d h
  rw [← q5, yby_c (ar' := ar) (by exact q0) (by exact q1) (by exact q2) (by exact q3) (by exact q4)] at run
  have bb := yby_b ar 0
  by_cases hz : yby ar 0 = 0
  · rw [if_pos hz] at g5
    refine ⟨mm, _, h, run, hG, fun _ _ hne => absurd rfl hne, _, List.mem_cons_self .., yexM (fun j => ρ0 (j + 1)) (fun j _ => rfl) ya0 (ya1 ?_ ya0) ya0 ?_⟩
    · show 0 + (1 * ρ0 12 + 0) ≤ 0
      rw [p11]
      omega
    · show (yby ar 0).toInt = 0 + 0
      rw [hz]
      rfl
  · rw [if_neg hz] at g5
    have hz1 : (yby ar 0).toInt ≠ 0 := fun e => hz (Int32.toInt_inj.mp e)
    refine ⟨mm, _, h, run, hG, fun _ _ hne => absurd rfl hne, _, List.mem_cons_of_mem _ (List.mem_cons_self ..), yexM (fun j => if j = 12 then (yby ar 0).toInt else ρ0 (j + 1)) ?_ (ya1 ?_ ya0) (ya1 ?_ ya0) ya0 ?_⟩
    · intro j hj
      have hj : j < 12 := hj
      show (if j = 12 then _ else ρ0 (j + 1)) = _
      rw [if_neg (by omega)]
    · show 1 ≤ (yby ar 0).toInt ∧ (yby ar 0).toInt ≤ 255
      omega
    · show 1 + (-1 * ρ0 12 + 0) ≤ 0
      rw [p11]
      omega
    · show (yby ar 0).toInt = 0 + (1 * (yby ar 0).toInt + 0)
      omega
theorem yT13_ok {t s : Nat} (ht : t < 5) {c0 v0 : Nat → Int} {ar : Nat → Int32} : ySum (yGv t s c0 v0 ar) yT13 := by
  intro args h ρ ρ0 hG hM d hd
  obtain ⟨-, ⟨⟨x0, x1, x2⟩, ⟨y0, y1, y2⟩, ⟨z0, z1, z2⟩, ⟨w0, w1, w2⟩, ⟨u0, u1, u2⟩, ⟨k0, k1, k2⟩, m0, m1, m2, m3, m4, m5, -⟩, ⟨-, -, -, -, -, b5, -⟩, ⟨e0, f0, e1, f1, e2, f2, e3, f3, e4, f4, -⟩, ⟨-, -, -, -, -, -, -, -, -, -, -, p11, -⟩, -⟩ := yun hM
  have g0 : (ar 0).toInt = sv ρ (sY 6) := ysm_gu (a := 15) m0
  have g1 : (ar 1).toInt = sv ρ (sY 7) := ysm_gu (a := 16) m1
  have g2 : (ar 2).toInt = sv ρ (sY 8) := ysm_gu (a := 17) m2
  have g3 : (ar 3).toInt = sv ρ (sY 9) := ysm_gu (a := 18) m3
  have g4 : (ar 4).toInt = sv ρ (sY 10) := ysm_gu (a := 19) m4
  have g5 : (if yby ar 1 = 0 then (0 : Int) else 1) = sv ρ (sY 11) := ysm_gu (a := 21) m5
  rw [sY_v] at g0 g1 g2 g3 g4 g5
  have x2 : x0.toInt = ρ 0 := x2
  have y2 : y0.toInt = ρ 1 := y2
  have z2 : z0.toInt = ρ 2 := z2
  have w2 : w0.toInt = ρ 3 := w2
  have u2 : u0.toInt = ρ 4 := u2
  have k2 : k0.toInt = ρ 5 := k2
  have b5 : 1 ≤ ρ 5 ∧ ρ 5 ≤ 1 := b5
  have e0 : 0 + (1 * ρ 0 + (-1 * ρ 6 + 0)) ≤ 0 := e0
  have f0 : 0 + (-1 * ρ 0 + (1 * ρ 6 + 0)) ≤ 0 := f0
  have e1 : 0 + (1 * ρ 1 + (-1 * ρ 7 + 0)) ≤ 0 := e1
  have f1 : 0 + (-1 * ρ 1 + (1 * ρ 7 + 0)) ≤ 0 := f1
  have e2 : 0 + (1 * ρ 2 + (-1 * ρ 8 + 0)) ≤ 0 := e2
  have f2 : 0 + (-1 * ρ 2 + (1 * ρ 8 + 0)) ≤ 0 := f2
  have e3 : 0 + (1 * ρ 3 + (-1 * ρ 9 + 0)) ≤ 0 := e3
  have f3 : 0 + (-1 * ρ 3 + (1 * ρ 9 + 0)) ≤ 0 := f3
  have e4 : 0 + (1 * ρ 4 + (-1 * ρ 10 + 0)) ≤ 0 := e4
  have f4 : 0 + (-1 * ρ 4 + (1 * ρ 10 + 0)) ≤ 0 := f4
  have p11 : ρ0 12 = ρ 11 := p11
  have q0 : x0 = ar 0 := Int32.toInt_inj.mp (by omega)
  have q1 : y0 = ar 1 := Int32.toInt_inj.mp (by omega)
  have q2 : z0 = ar 2 := Int32.toInt_inj.mp (by omega)
  have q3 : w0 = ar 3 := Int32.toInt_inj.mp (by omega)
  have q4 : u0 = ar 4 := Int32.toInt_inj.mp (by omega)
  have q5 : k0 = 1 := Int32.toInt_inj.mp (by rw [k2]; show _ = (1 : Int); omega)
  obtain ⟨r1, rfl, s1⟩ := yarg x1
  rw [s1 1 (by decide)] at y1
  rw [s1 2 (by decide)] at z1
  rw [s1 3 (by decide)] at w1
  rw [s1 4 (by decide)] at u1
  rw [s1 5 (by decide)] at k1
  obtain ⟨r2, rfl, s2⟩ := yarg y1
  rw [s2 2 (by decide)] at z1
  rw [s2 3 (by decide)] at w1
  rw [s2 4 (by decide)] at u1
  rw [s2 5 (by decide)] at k1
  obtain ⟨r3, rfl, s3⟩ := yarg z1
  rw [s3 3 (by decide)] at w1
  rw [s3 4 (by decide)] at u1
  rw [s3 5 (by decide)] at k1
  obtain ⟨r4, rfl, s4⟩ := yarg w1
  rw [s4 4 (by decide)] at u1
  rw [s4 5 (by decide)] at k1
  obtain ⟨r5, rfl, s5⟩ := yarg u1
  rw [s5 5 (by decide)] at k1
  obtain ⟨r6, rfl, s6⟩ := yarg k1
  obtain ⟨mm, run⟩ := ybyte1 x0 y0 z0 w0 u0 r6 d h
  rw [← q5, yby_c (ar' := ar) (by exact q0) (by exact q1) (by exact q2) (by exact q3) (by exact q4)] at run
  have bb := yby_b ar 1
  by_cases hz : yby ar 1 = 0
  · rw [if_pos hz] at g5
    refine ⟨mm, _, h, run, hG, fun _ _ hne => absurd rfl hne, _, List.mem_cons_self .., yexM (fun j => ρ0 (j + 1)) (fun j _ => rfl) ya0 (ya1 ?_ ya0) ya0 ?_⟩
    · show 0 + (1 * ρ0 12 + 0) ≤ 0
      rw [p11]
      omega
    · show (yby ar 1).toInt = 0 + 0
      rw [hz]
      rfl
  · rw [if_neg hz] at g5
    have hz1 : (yby ar 1).toInt ≠ 0 := fun e => hz (Int32.toInt_inj.mp e)
    refine ⟨mm, _, h, run, hG, fun _ _ hne => absurd rfl hne, _, List.mem_cons_of_mem _ (List.mem_cons_self ..), yexM (fun j => if j = 12 then (yby ar 1).toInt else ρ0 (j + 1)) ?_ (ya1 ?_ ya0) (ya1 ?_ ya0) ya0 ?_⟩
    · intro j hj
      have hj : j < 12 := hj
      show (if j = 12 then _ else ρ0 (j + 1)) = _
      rw [if_neg (by omega)]
    · show 1 ≤ (yby ar 1).toInt ∧ (yby ar 1).toInt ≤ 255
      omega
    · show 1 + (-1 * ρ0 12 + 0) ≤ 0
      rw [p11]
      omega
    · show (yby ar 1).toInt = 0 + (1 * (yby ar 1).toInt + 0)
      omega
theorem yT14_ok {t s : Nat} (ht : t < 5) {c0 v0 : Nat → Int} {ar : Nat → Int32} : ySum (yGv t s c0 v0 ar) yT14 := by
  intro args h ρ ρ0 hG hM d hd
  obtain ⟨-, ⟨⟨x0, x1, x2⟩, ⟨y0, y1, y2⟩, ⟨z0, z1, z2⟩, ⟨w0, w1, w2⟩, ⟨u0, u1, u2⟩, ⟨k0, k1, k2⟩, m0, m1, m2, m3, m4, m5, -⟩, ⟨-, -, -, -, -, b5, -⟩, ⟨e0, f0, e1, f1, e2, f2, e3, f3, e4, f4, -⟩, ⟨-, -, -, -, -, -, -, -, -, -, -, p11, -⟩, -⟩ := yun hM
  have g0 : (ar 0).toInt = sv ρ (sY 6) := ysm_gu (a := 15) m0
  have g1 : (ar 1).toInt = sv ρ (sY 7) := ysm_gu (a := 16) m1
  have g2 : (ar 2).toInt = sv ρ (sY 8) := ysm_gu (a := 17) m2
  have g3 : (ar 3).toInt = sv ρ (sY 9) := ysm_gu (a := 18) m3
  have g4 : (ar 4).toInt = sv ρ (sY 10) := ysm_gu (a := 19) m4
  have g5 : (if yby ar 2 = 0 then (0 : Int) else 1) = sv ρ (sY 11) := ysm_gu (a := 22) m5
  rw [sY_v] at g0 g1 g2 g3 g4 g5
  have x2 : x0.toInt = ρ 0 := x2
  have y2 : y0.toInt = ρ 1 := y2
  have z2 : z0.toInt = ρ 2 := z2
  have w2 : w0.toInt = ρ 3 := w2
  have u2 : u0.toInt = ρ 4 := u2
  have k2 : k0.toInt = ρ 5 := k2
  have b5 : 2 ≤ ρ 5 ∧ ρ 5 ≤ 2 := b5
  have e0 : 0 + (1 * ρ 0 + (-1 * ρ 6 + 0)) ≤ 0 := e0
  have f0 : 0 + (-1 * ρ 0 + (1 * ρ 6 + 0)) ≤ 0 := f0
  have e1 : 0 + (1 * ρ 1 + (-1 * ρ 7 + 0)) ≤ 0 := e1
  have f1 : 0 + (-1 * ρ 1 + (1 * ρ 7 + 0)) ≤ 0 := f1
  have e2 : 0 + (1 * ρ 2 + (-1 * ρ 8 + 0)) ≤ 0 := e2
  have f2 : 0 + (-1 * ρ 2 + (1 * ρ 8 + 0)) ≤ 0 := f2
  have e3 : 0 + (1 * ρ 3 + (-1 * ρ 9 + 0)) ≤ 0 := e3
  have f3 : 0 + (-1 * ρ 3 + (1 * ρ 9 + 0)) ≤ 0 := f3
  have e4 : 0 + (1 * ρ 4 + (-1 * ρ 10 + 0)) ≤ 0 := e4
  have f4 : 0 + (-1 * ρ 4 + (1 * ρ 10 + 0)) ≤ 0 := f4
  have p11 : ρ0 12 = ρ 11 := p11
  have q0 : x0 = ar 0 := Int32.toInt_inj.mp (by omega)
  have q1 : y0 = ar 1 := Int32.toInt_inj.mp (by omega)
  have q2 : z0 = ar 2 := Int32.toInt_inj.mp (by omega)
  have q3 : w0 = ar 3 := Int32.toInt_inj.mp (by omega)
  have q4 : u0 = ar 4 := Int32.toInt_inj.mp (by omega)
  have q5 : k0 = 2 := Int32.toInt_inj.mp (by rw [k2]; show _ = (2 : Int); omega)
  obtain ⟨r1, rfl, s1⟩ := yarg x1
  rw [s1 1 (by decide)] at y1
  rw [s1 2 (by decide)] at z1
  rw [s1 3 (by decide)] at w1
  rw [s1 4 (by decide)] at u1
  rw [s1 5 (by decide)] at k1
  obtain ⟨r2, rfl, s2⟩ := yarg y1
  rw [s2 2 (by decide)] at z1
  rw [s2 3 (by decide)] at w1
  rw [s2 4 (by decide)] at u1
  rw [s2 5 (by decide)] at k1
  obtain ⟨r3, rfl, s3⟩ := yarg z1
  rw [s3 3 (by decide)] at w1
  rw [s3 4 (by decide)] at u1
  rw [s3 5 (by decide)] at k1
  obtain ⟨r4, rfl, s4⟩ := yarg w1
  rw [s4 4 (by decide)] at u1
  rw [s4 5 (by decide)] at k1
  obtain ⟨r5, rfl, s5⟩ := yarg u1
  rw [s5 5 (by decide)] at k1
  obtain ⟨r6, rfl, s6⟩ := yarg k1
  obtain ⟨mm, run⟩ := ybyte2 x0 y0 z0 w0 u0 r6 d h
  rw [← q5, yby_c (ar' := ar) (by exact q0) (by exact q1) (by exact q2) (by exact q3) (by exact q4)] at run
  have bb := yby_b ar 2
  by_cases hz : yby ar 2 = 0
  · rw [if_pos hz] at g5
    refine ⟨mm, _, h, run, hG, fun _ _ hne => absurd rfl hne, _, List.mem_cons_self .., yexM (fun j => ρ0 (j + 1)) (fun j _ => rfl) ya0 (ya1 ?_ ya0) ya0 ?_⟩
    · show 0 + (1 * ρ0 12 + 0) ≤ 0
      rw [p11]
      omega
    · show (yby ar 2).toInt = 0 + 0
      rw [hz]
      rfl
  · rw [if_neg hz] at g5
    have hz1 : (yby ar 2).toInt ≠ 0 := fun e => hz (Int32.toInt_inj.mp e)
    refine ⟨mm, _, h, run, hG, fun _ _ hne => absurd rfl hne, _, List.mem_cons_of_mem _ (List.mem_cons_self ..), yexM (fun j => if j = 12 then (yby ar 2).toInt else ρ0 (j + 1)) ?_ (ya1 ?_ ya0) (ya1 ?_ ya0) ya0 ?_⟩
    · intro j hj
      have hj : j < 12 := hj
      show (if j = 12 then _ else ρ0 (j + 1)) = _
      rw [if_neg (by omega)]
    · show 1 ≤ (yby ar 2).toInt ∧ (yby ar 2).toInt ≤ 255
      omega
    · show 1 + (-1 * ρ0 12 + 0) ≤ 0
      rw [p11]
      omega
    · show (yby ar 2).toInt = 0 + (1 * (yby ar 2).toInt + 0)
      omega
theorem yT15_ok {t s : Nat} (ht : t < 5) {c0 v0 : Nat → Int} {ar : Nat → Int32} : ySum (yGv t s c0 v0 ar) yT15 := by
  intro args h ρ ρ0 hG hM d hd
  obtain ⟨-, ⟨⟨x0, x1, x2⟩, ⟨y0, y1, y2⟩, ⟨z0, z1, z2⟩, ⟨w0, w1, w2⟩, ⟨u0, u1, u2⟩, ⟨k0, k1, k2⟩, m0, m1, m2, m3, m4, m5, -⟩, ⟨-, -, -, -, -, b5, -⟩, ⟨e0, f0, e1, f1, e2, f2, e3, f3, e4, f4, -⟩, ⟨-, -, -, -, -, -, -, -, -, -, -, p11, -⟩, -⟩ := yun hM
  have g0 : (ar 0).toInt = sv ρ (sY 6) := ysm_gu (a := 15) m0
  have g1 : (ar 1).toInt = sv ρ (sY 7) := ysm_gu (a := 16) m1
  have g2 : (ar 2).toInt = sv ρ (sY 8) := ysm_gu (a := 17) m2
  have g3 : (ar 3).toInt = sv ρ (sY 9) := ysm_gu (a := 18) m3
  have g4 : (ar 4).toInt = sv ρ (sY 10) := ysm_gu (a := 19) m4
  have g5 : (if yby ar 3 = 0 then (0 : Int) else 1) = sv ρ (sY 11) := ysm_gu (a := 23) m5
  rw [sY_v] at g0 g1 g2 g3 g4 g5
  have x2 : x0.toInt = ρ 0 := x2
  have y2 : y0.toInt = ρ 1 := y2
  have z2 : z0.toInt = ρ 2 := z2
  have w2 : w0.toInt = ρ 3 := w2
  have u2 : u0.toInt = ρ 4 := u2
  have k2 : k0.toInt = ρ 5 := k2
  have b5 : 3 ≤ ρ 5 ∧ ρ 5 ≤ 3 := b5
  have e0 : 0 + (1 * ρ 0 + (-1 * ρ 6 + 0)) ≤ 0 := e0
  have f0 : 0 + (-1 * ρ 0 + (1 * ρ 6 + 0)) ≤ 0 := f0
  have e1 : 0 + (1 * ρ 1 + (-1 * ρ 7 + 0)) ≤ 0 := e1
  have f1 : 0 + (-1 * ρ 1 + (1 * ρ 7 + 0)) ≤ 0 := f1
  have e2 : 0 + (1 * ρ 2 + (-1 * ρ 8 + 0)) ≤ 0 := e2
  have f2 : 0 + (-1 * ρ 2 + (1 * ρ 8 + 0)) ≤ 0 := f2
  have e3 : 0 + (1 * ρ 3 + (-1 * ρ 9 + 0)) ≤ 0 := e3
  have f3 : 0 + (-1 * ρ 3 + (1 * ρ 9 + 0)) ≤ 0 := f3
  have e4 : 0 + (1 * ρ 4 + (-1 * ρ 10 + 0)) ≤ 0 := e4
  have f4 : 0 + (-1 * ρ 4 + (1 * ρ 10 + 0)) ≤ 0 := f4
  have p11 : ρ0 12 = ρ 11 := p11
  have q0 : x0 = ar 0 := Int32.toInt_inj.mp (by omega)
  have q1 : y0 = ar 1 := Int32.toInt_inj.mp (by omega)
  have q2 : z0 = ar 2 := Int32.toInt_inj.mp (by omega)
  have q3 : w0 = ar 3 := Int32.toInt_inj.mp (by omega)
  have q4 : u0 = ar 4 := Int32.toInt_inj.mp (by omega)
  have q5 : k0 = 3 := Int32.toInt_inj.mp (by rw [k2]; show _ = (3 : Int); omega)
  obtain ⟨r1, rfl, s1⟩ := yarg x1
  rw [s1 1 (by decide)] at y1
  rw [s1 2 (by decide)] at z1
  rw [s1 3 (by decide)] at w1
  rw [s1 4 (by decide)] at u1
  rw [s1 5 (by decide)] at k1
  obtain ⟨r2, rfl, s2⟩ := yarg y1
  rw [s2 2 (by decide)] at z1
  rw [s2 3 (by decide)] at w1
  rw [s2 4 (by decide)] at u1
  rw [s2 5 (by decide)] at k1
  obtain ⟨r3, rfl, s3⟩ := yarg z1
  rw [s3 3 (by decide)] at w1
  rw [s3 4 (by decide)] at u1
  rw [s3 5 (by decide)] at k1
  obtain ⟨r4, rfl, s4⟩ := yarg w1
  rw [s4 4 (by decide)] at u1
  rw [s4 5 (by decide)] at k1
  obtain ⟨r5, rfl, s5⟩ := yarg u1
  rw [s5 5 (by decide)] at k1
  obtain ⟨r6, rfl, s6⟩ := yarg k1
  obtain ⟨mm, run⟩ := ybyte3 x0 y0 z0 w0 u0 r6 d h
  rw [← q5, yby_c (ar' := ar) (by exact q0) (by exact q1) (by exact q2) (by exact q3) (by exact q4)] at run
  have bb := yby_b ar 3
  by_cases hz : yby ar 3 = 0
  · rw [if_pos hz] at g5
    refine ⟨mm, _, h, run, hG, fun _ _ hne => absurd rfl hne, _, List.mem_cons_self .., yexM (fun j => ρ0 (j + 1)) (fun j _ => rfl) ya0 (ya1 ?_ ya0) ya0 ?_⟩
    · show 0 + (1 * ρ0 12 + 0) ≤ 0
      rw [p11]
      omega
    · show (yby ar 3).toInt = 0 + 0
      rw [hz]
      rfl
  · rw [if_neg hz] at g5
    have hz1 : (yby ar 3).toInt ≠ 0 := fun e => hz (Int32.toInt_inj.mp e)
    refine ⟨mm, _, h, run, hG, fun _ _ hne => absurd rfl hne, _, List.mem_cons_of_mem _ (List.mem_cons_self ..), yexM (fun j => if j = 12 then (yby ar 3).toInt else ρ0 (j + 1)) ?_ (ya1 ?_ ya0) (ya1 ?_ ya0) ya0 ?_⟩
    · intro j hj
      have hj : j < 12 := hj
      show (if j = 12 then _ else ρ0 (j + 1)) = _
      rw [if_neg (by omega)]
    · show 1 ≤ (yby ar 3).toInt ∧ (yby ar 3).toInt ≤ 255
      omega
    · show 1 + (-1 * ρ0 12 + 0) ≤ 0
      rw [p11]
      omega
    · show (yby ar 3).toInt = 0 + (1 * (yby ar 3).toInt + 0)
      omega
theorem yT16_ok {t s : Nat} (ht : t < 5) {c0 v0 : Nat → Int} {ar : Nat → Int32} : ySum (yGv t s c0 v0 ar) yT16 := by
  intro args h ρ ρ0 hG hM d hd
  obtain ⟨-, ⟨⟨x0, x1, x2⟩, ⟨y0, y1, y2⟩, ⟨z0, z1, z2⟩, ⟨w0, w1, w2⟩, ⟨u0, u1, u2⟩, ⟨k0, k1, k2⟩, m0, m1, m2, m3, m4, m5, -⟩, ⟨-, -, -, -, -, b5, -⟩, ⟨e0, f0, e1, f1, e2, f2, e3, f3, e4, f4, -⟩, ⟨-, -, -, -, -, -, -, -, -, -, -, p11, -⟩, -⟩ := yun hM
  have g0 : (ar 0).toInt = sv ρ (sY 6) := ysm_gu (a := 15) m0
  have g1 : (ar 1).toInt = sv ρ (sY 7) := ysm_gu (a := 16) m1
  have g2 : (ar 2).toInt = sv ρ (sY 8) := ysm_gu (a := 17) m2
  have g3 : (ar 3).toInt = sv ρ (sY 9) := ysm_gu (a := 18) m3
  have g4 : (ar 4).toInt = sv ρ (sY 10) := ysm_gu (a := 19) m4
  have g5 : (if yby ar 4 = 0 then (0 : Int) else 1) = sv ρ (sY 11) := ysm_gu (a := 24) m5
  rw [sY_v] at g0 g1 g2 g3 g4 g5
  have x2 : x0.toInt = ρ 0 := x2
  have y2 : y0.toInt = ρ 1 := y2
  have z2 : z0.toInt = ρ 2 := z2
  have w2 : w0.toInt = ρ 3 := w2
  have u2 : u0.toInt = ρ 4 := u2
  have k2 : k0.toInt = ρ 5 := k2
  have b5 : 4 ≤ ρ 5 ∧ ρ 5 ≤ 4 := b5
  have e0 : 0 + (1 * ρ 0 + (-1 * ρ 6 + 0)) ≤ 0 := e0
  have f0 : 0 + (-1 * ρ 0 + (1 * ρ 6 + 0)) ≤ 0 := f0
  have e1 : 0 + (1 * ρ 1 + (-1 * ρ 7 + 0)) ≤ 0 := e1
  have f1 : 0 + (-1 * ρ 1 + (1 * ρ 7 + 0)) ≤ 0 := f1
  have e2 : 0 + (1 * ρ 2 + (-1 * ρ 8 + 0)) ≤ 0 := e2
  have f2 : 0 + (-1 * ρ 2 + (1 * ρ 8 + 0)) ≤ 0 := f2
  have e3 : 0 + (1 * ρ 3 + (-1 * ρ 9 + 0)) ≤ 0 := e3
  have f3 : 0 + (-1 * ρ 3 + (1 * ρ 9 + 0)) ≤ 0 := f3
  have e4 : 0 + (1 * ρ 4 + (-1 * ρ 10 + 0)) ≤ 0 := e4
  have f4 : 0 + (-1 * ρ 4 + (1 * ρ 10 + 0)) ≤ 0 := f4
  have p11 : ρ0 12 = ρ 11 := p11
  have q0 : x0 = ar 0 := Int32.toInt_inj.mp (by omega)
  have q1 : y0 = ar 1 := Int32.toInt_inj.mp (by omega)
  have q2 : z0 = ar 2 := Int32.toInt_inj.mp (by omega)
  have q3 : w0 = ar 3 := Int32.toInt_inj.mp (by omega)
  have q4 : u0 = ar 4 := Int32.toInt_inj.mp (by omega)
  have q5 : k0 = 4 := Int32.toInt_inj.mp (by rw [k2]; show _ = (4 : Int); omega)
  obtain ⟨r1, rfl, s1⟩ := yarg x1
  rw [s1 1 (by decide)] at y1
  rw [s1 2 (by decide)] at z1
  rw [s1 3 (by decide)] at w1
  rw [s1 4 (by decide)] at u1
  rw [s1 5 (by decide)] at k1
  obtain ⟨r2, rfl, s2⟩ := yarg y1
  rw [s2 2 (by decide)] at z1
  rw [s2 3 (by decide)] at w1
  rw [s2 4 (by decide)] at u1
  rw [s2 5 (by decide)] at k1
  obtain ⟨r3, rfl, s3⟩ := yarg z1
  rw [s3 3 (by decide)] at w1
  rw [s3 4 (by decide)] at u1
  rw [s3 5 (by decide)] at k1
  obtain ⟨r4, rfl, s4⟩ := yarg w1
  rw [s4 4 (by decide)] at u1
  rw [s4 5 (by decide)] at k1
  obtain ⟨r5, rfl, s5⟩ := yarg u1
  rw [s5 5 (by decide)] at k1
  obtain ⟨r6, rfl, s6⟩ := yarg k1
  obtain ⟨mm, run⟩ := ybyte4 x0 y0 z0 w0 u0 r6 d h
  rw [← q5, yby_c (ar' := ar) (by exact q0) (by exact q1) (by exact q2) (by exact q3) (by exact q4)] at run
  have bb := yby_b ar 4
  by_cases hz : yby ar 4 = 0
  · rw [if_pos hz] at g5
    refine ⟨mm, _, h, run, hG, fun _ _ hne => absurd rfl hne, _, List.mem_cons_self .., yexM (fun j => ρ0 (j + 1)) (fun j _ => rfl) ya0 (ya1 ?_ ya0) ya0 ?_⟩
    · show 0 + (1 * ρ0 12 + 0) ≤ 0
      rw [p11]
      omega
    · show (yby ar 4).toInt = 0 + 0
      rw [hz]
      rfl
  · rw [if_neg hz] at g5
    have hz1 : (yby ar 4).toInt ≠ 0 := fun e => hz (Int32.toInt_inj.mp e)
    refine ⟨mm, _, h, run, hG, fun _ _ hne => absurd rfl hne, _, List.mem_cons_of_mem _ (List.mem_cons_self ..), yexM (fun j => if j = 12 then (yby ar 4).toInt else ρ0 (j + 1)) ?_ (ya1 ?_ ya0) (ya1 ?_ ya0) ya0 ?_⟩
    · intro j hj
      have hj : j < 12 := hj
      show (if j = 12 then _ else ρ0 (j + 1)) = _
      rw [if_neg (by omega)]
    · show 1 ≤ (yby ar 4).toInt ∧ (yby ar 4).toInt ≤ 255
      omega
    · show 1 + (-1 * ρ0 12 + 0) ≤ 0
      rw [p11]
      omega
    · show (yby ar 4).toInt = 0 + (1 * (yby ar 4).toInt + 0)
      omega
theorem yT17_ok {t s : Nat} (ht : t < 5) {c0 v0 : Nat → Int} {ar : Nat → Int32} : ySum (yGv t s c0 v0 ar) yT17 := by
  intro args h ρ ρ0 hG hM d hd
  obtain ⟨-, ⟨⟨x0, x1, x2⟩, ⟨y0, y1, y2⟩, ⟨z0, z1, z2⟩, ⟨w0, w1, w2⟩, ⟨u0, u1, u2⟩, ⟨k0, k1, k2⟩, m0, m1, m2, m3, m4, m5, -⟩, ⟨-, -, -, -, -, b5, -⟩, ⟨e0, f0, e1, f1, e2, f2, e3, f3, e4, f4, -⟩, ⟨-, -, -, -, -, -, -, -, -, -, -, p11, -⟩, -⟩ := yun hM
  have g0 : (ar 0).toInt = sv ρ (sY 6) := ysm_gu (a := 15) m0
  have g1 : (ar 1).toInt = sv ρ (sY 7) := ysm_gu (a := 16) m1
  have g2 : (ar 2).toInt = sv ρ (sY 8) := ysm_gu (a := 17) m2
  have g3 : (ar 3).toInt = sv ρ (sY 9) := ysm_gu (a := 18) m3
  have g4 : (ar 4).toInt = sv ρ (sY 10) := ysm_gu (a := 19) m4
  have g5 : (if yby ar 5 = 0 then (0 : Int) else 1) = sv ρ (sY 11) := ysm_gu (a := 25) m5
  rw [sY_v] at g0 g1 g2 g3 g4 g5
  have x2 : x0.toInt = ρ 0 := x2
  have y2 : y0.toInt = ρ 1 := y2
  have z2 : z0.toInt = ρ 2 := z2
  have w2 : w0.toInt = ρ 3 := w2
  have u2 : u0.toInt = ρ 4 := u2
  have k2 : k0.toInt = ρ 5 := k2
  have b5 : 5 ≤ ρ 5 ∧ ρ 5 ≤ 5 := b5
  have e0 : 0 + (1 * ρ 0 + (-1 * ρ 6 + 0)) ≤ 0 := e0
  have f0 : 0 + (-1 * ρ 0 + (1 * ρ 6 + 0)) ≤ 0 := f0
  have e1 : 0 + (1 * ρ 1 + (-1 * ρ 7 + 0)) ≤ 0 := e1
  have f1 : 0 + (-1 * ρ 1 + (1 * ρ 7 + 0)) ≤ 0 := f1
  have e2 : 0 + (1 * ρ 2 + (-1 * ρ 8 + 0)) ≤ 0 := e2
  have f2 : 0 + (-1 * ρ 2 + (1 * ρ 8 + 0)) ≤ 0 := f2
  have e3 : 0 + (1 * ρ 3 + (-1 * ρ 9 + 0)) ≤ 0 := e3
  have f3 : 0 + (-1 * ρ 3 + (1 * ρ 9 + 0)) ≤ 0 := f3
  have e4 : 0 + (1 * ρ 4 + (-1 * ρ 10 + 0)) ≤ 0 := e4
  have f4 : 0 + (-1 * ρ 4 + (1 * ρ 10 + 0)) ≤ 0 := f4
  have p11 : ρ0 12 = ρ 11 := p11
  have q0 : x0 = ar 0 := Int32.toInt_inj.mp (by omega)
  have q1 : y0 = ar 1 := Int32.toInt_inj.mp (by omega)
  have q2 : z0 = ar 2 := Int32.toInt_inj.mp (by omega)
  have q3 : w0 = ar 3 := Int32.toInt_inj.mp (by omega)
  have q4 : u0 = ar 4 := Int32.toInt_inj.mp (by omega)
  have q5 : k0 = 5 := Int32.toInt_inj.mp (by rw [k2]; show _ = (5 : Int); omega)
  obtain ⟨r1, rfl, s1⟩ := yarg x1
  rw [s1 1 (by decide)] at y1
  rw [s1 2 (by decide)] at z1
  rw [s1 3 (by decide)] at w1
  rw [s1 4 (by decide)] at u1
  rw [s1 5 (by decide)] at k1
  obtain ⟨r2, rfl, s2⟩ := yarg y1
  rw [s2 2 (by decide)] at z1
  rw [s2 3 (by decide)] at w1
  rw [s2 4 (by decide)] at u1
  rw [s2 5 (by decide)] at k1
  obtain ⟨r3, rfl, s3⟩ := yarg z1
  rw [s3 3 (by decide)] at w1
  rw [s3 4 (by decide)] at u1
  rw [s3 5 (by decide)] at k1
  obtain ⟨r4, rfl, s4⟩ := yarg w1
  rw [s4 4 (by decide)] at u1
  rw [s4 5 (by decide)] at k1
  obtain ⟨r5, rfl, s5⟩ := yarg u1
  rw [s5 5 (by decide)] at k1
  obtain ⟨r6, rfl, s6⟩ := yarg k1
  obtain ⟨mm, run⟩ := ybyte5 x0 y0 z0 w0 u0 r6 d h
  rw [← q5, yby_c (ar' := ar) (by exact q0) (by exact q1) (by exact q2) (by exact q3) (by exact q4)] at run
  have bb := yby_b ar 5
  by_cases hz : yby ar 5 = 0
  · rw [if_pos hz] at g5
    refine ⟨mm, _, h, run, hG, fun _ _ hne => absurd rfl hne, _, List.mem_cons_self .., yexM (fun j => ρ0 (j + 1)) (fun j _ => rfl) ya0 (ya1 ?_ ya0) ya0 ?_⟩
    · show 0 + (1 * ρ0 12 + 0) ≤ 0
      rw [p11]
      omega
    · show (yby ar 5).toInt = 0 + 0
      rw [hz]
      rfl
  · rw [if_neg hz] at g5
    have hz1 : (yby ar 5).toInt ≠ 0 := fun e => hz (Int32.toInt_inj.mp e)
    refine ⟨mm, _, h, run, hG, fun _ _ hne => absurd rfl hne, _, List.mem_cons_of_mem _ (List.mem_cons_self ..), yexM (fun j => if j = 12 then (yby ar 5).toInt else ρ0 (j + 1)) ?_ (ya1 ?_ ya0) (ya1 ?_ ya0) ya0 ?_⟩
    · intro j hj
      have hj : j < 12 := hj
      show (if j = 12 then _ else ρ0 (j + 1)) = _
      rw [if_neg (by omega)]
    · show 1 ≤ (yby ar 5).toInt ∧ (yby ar 5).toInt ≤ 255
      omega
    · show 1 + (-1 * ρ0 12 + 0) ≤ 0
      rw [p11]
      omega
    · show (yby ar 5).toInt = 0 + (1 * (yby ar 5).toInt + 0)
      omega
theorem yT18_ok {t s : Nat} (ht : t < 5) {c0 v0 : Nat → Int} {ar : Nat → Int32} : ySum (yGv t s c0 v0 ar) yT18 := by
  intro args h ρ ρ0 hG hM d hd
  obtain ⟨-, ⟨⟨x0, x1, x2⟩, ⟨y0, y1, y2⟩, ⟨z0, z1, z2⟩, ⟨w0, w1, w2⟩, ⟨u0, u1, u2⟩, ⟨k0, k1, k2⟩, m0, m1, m2, m3, m4, m5, -⟩, ⟨-, -, -, -, -, b5, -⟩, ⟨e0, f0, e1, f1, e2, f2, e3, f3, e4, f4, -⟩, ⟨-, -, -, -, -, -, -, -, -, -, -, p11, -⟩, -⟩ := yun hM
  have g0 : (ar 0).toInt = sv ρ (sY 6) := ysm_gu (a := 15) m0
  have g1 : (ar 1).toInt = sv ρ (sY 7) := ysm_gu (a := 16) m1
  have g2 : (ar 2).toInt = sv ρ (sY 8) := ysm_gu (a := 17) m2
  have g3 : (ar 3).toInt = sv ρ (sY 9) := ysm_gu (a := 18) m3
  have g4 : (ar 4).toInt = sv ρ (sY 10) := ysm_gu (a := 19) m4
  have g5 : (if yby ar 6 = 0 then (0 : Int) else 1) = sv ρ (sY 11) := ysm_gu (a := 26) m5
  rw [sY_v] at g0 g1 g2 g3 g4 g5
  have x2 : x0.toInt = ρ 0 := x2
  have y2 : y0.toInt = ρ 1 := y2
  have z2 : z0.toInt = ρ 2 := z2
  have w2 : w0.toInt = ρ 3 := w2
  have u2 : u0.toInt = ρ 4 := u2
  have k2 : k0.toInt = ρ 5 := k2
  have b5 : 6 ≤ ρ 5 ∧ ρ 5 ≤ 6 := b5
  have e0 : 0 + (1 * ρ 0 + (-1 * ρ 6 + 0)) ≤ 0 := e0
  have f0 : 0 + (-1 * ρ 0 + (1 * ρ 6 + 0)) ≤ 0 := f0
  have e1 : 0 + (1 * ρ 1 + (-1 * ρ 7 + 0)) ≤ 0 := e1
  have f1 : 0 + (-1 * ρ 1 + (1 * ρ 7 + 0)) ≤ 0 := f1
  have e2 : 0 + (1 * ρ 2 + (-1 * ρ 8 + 0)) ≤ 0 := e2
  have f2 : 0 + (-1 * ρ 2 + (1 * ρ 8 + 0)) ≤ 0 := f2
  have e3 : 0 + (1 * ρ 3 + (-1 * ρ 9 + 0)) ≤ 0 := e3
  have f3 : 0 + (-1 * ρ 3 + (1 * ρ 9 + 0)) ≤ 0 := f3
  have e4 : 0 + (1 * ρ 4 + (-1 * ρ 10 + 0)) ≤ 0 := e4
  have f4 : 0 + (-1 * ρ 4 + (1 * ρ 10 + 0)) ≤ 0 := f4
  have p11 : ρ0 12 = ρ 11 := p11
  have q0 : x0 = ar 0 := Int32.toInt_inj.mp (by omega)
  have q1 : y0 = ar 1 := Int32.toInt_inj.mp (by omega)
  have q2 : z0 = ar 2 := Int32.toInt_inj.mp (by omega)
  have q3 : w0 = ar 3 := Int32.toInt_inj.mp (by omega)
  have q4 : u0 = ar 4 := Int32.toInt_inj.mp (by omega)
  have q5 : k0 = 6 := Int32.toInt_inj.mp (by rw [k2]; show _ = (6 : Int); omega)
  obtain ⟨r1, rfl, s1⟩ := yarg x1
  rw [s1 1 (by decide)] at y1
  rw [s1 2 (by decide)] at z1
  rw [s1 3 (by decide)] at w1
  rw [s1 4 (by decide)] at u1
  rw [s1 5 (by decide)] at k1
  obtain ⟨r2, rfl, s2⟩ := yarg y1
  rw [s2 2 (by decide)] at z1
  rw [s2 3 (by decide)] at w1
  rw [s2 4 (by decide)] at u1
  rw [s2 5 (by decide)] at k1
  obtain ⟨r3, rfl, s3⟩ := yarg z1
  rw [s3 3 (by decide)] at w1
  rw [s3 4 (by decide)] at u1
  rw [s3 5 (by decide)] at k1
  obtain ⟨r4, rfl, s4⟩ := yarg w1
  rw [s4 4 (by decide)] at u1
  rw [s4 5 (by decide)] at k1
  obtain ⟨r5, rfl, s5⟩ := yarg u1
  rw [s5 5 (by decide)] at k1
  obtain ⟨r6, rfl, s6⟩ := yarg k1
  obtain ⟨mm, run⟩ := ybyte6 x0 y0 z0 w0 u0 r6 d h
  rw [← q5, yby_c (ar' := ar) (by exact q0) (by exact q1) (by exact q2) (by exact q3) (by exact q4)] at run
  have bb := yby_b ar 6
  by_cases hz : yby ar 6 = 0
  · rw [if_pos hz] at g5
    refine ⟨mm, _, h, run, hG, fun _ _ hne => absurd rfl hne, _, List.mem_cons_self .., yexM (fun j => ρ0 (j + 1)) (fun j _ => rfl) ya0 (ya1 ?_ ya0) ya0 ?_⟩
    · show 0 + (1 * ρ0 12 + 0) ≤ 0
      rw [p11]
      omega
    · show (yby ar 6).toInt = 0 + 0
      rw [hz]
      rfl
  · rw [if_neg hz] at g5
    have hz1 : (yby ar 6).toInt ≠ 0 := fun e => hz (Int32.toInt_inj.mp e)
    refine ⟨mm, _, h, run, hG, fun _ _ hne => absurd rfl hne, _, List.mem_cons_of_mem _ (List.mem_cons_self ..), yexM (fun j => if j = 12 then (yby ar 6).toInt else ρ0 (j + 1)) ?_ (ya1 ?_ ya0) (ya1 ?_ ya0) ya0 ?_⟩
    · intro j hj
      have hj : j < 12 := hj
      show (if j = 12 then _ else ρ0 (j + 1)) = _
      rw [if_neg (by omega)]
    · show 1 ≤ (yby ar 6).toInt ∧ (yby ar 6).toInt ≤ 255
      omega
    · show 1 + (-1 * ρ0 12 + 0) ≤ 0
      rw [p11]
      omega
    · show (yby ar 6).toInt = 0 + (1 * (yby ar 6).toInt + 0)
      omega
theorem yT19_ok {t s : Nat} (ht : t < 5) {c0 v0 : Nat → Int} {ar : Nat → Int32} : ySum (yGv t s c0 v0 ar) yT19 := by
  intro args h ρ ρ0 hG hM d hd
  obtain ⟨-, ⟨⟨x0, x1, x2⟩, ⟨y0, y1, y2⟩, ⟨z0, z1, z2⟩, ⟨w0, w1, w2⟩, ⟨u0, u1, u2⟩, ⟨k0, k1, k2⟩, m0, m1, m2, m3, m4, m5, -⟩, ⟨-, -, -, -, -, b5, -⟩, ⟨e0, f0, e1, f1, e2, f2, e3, f3, e4, f4, -⟩, ⟨-, -, -, -, -, -, -, -, -, -, -, p11, -⟩, -⟩ := yun hM
  have g0 : (ar 0).toInt = sv ρ (sY 6) := ysm_gu (a := 15) m0
  have g1 : (ar 1).toInt = sv ρ (sY 7) := ysm_gu (a := 16) m1
  have g2 : (ar 2).toInt = sv ρ (sY 8) := ysm_gu (a := 17) m2
  have g3 : (ar 3).toInt = sv ρ (sY 9) := ysm_gu (a := 18) m3
  have g4 : (ar 4).toInt = sv ρ (sY 10) := ysm_gu (a := 19) m4
  have g5 : (if yby ar 7 = 0 then (0 : Int) else 1) = sv ρ (sY 11) := ysm_gu (a := 27) m5
  rw [sY_v] at g0 g1 g2 g3 g4 g5
  have x2 : x0.toInt = ρ 0 := x2
  have y2 : y0.toInt = ρ 1 := y2
  have z2 : z0.toInt = ρ 2 := z2
  have w2 : w0.toInt = ρ 3 := w2
  have u2 : u0.toInt = ρ 4 := u2
  have k2 : k0.toInt = ρ 5 := k2
  have b5 : 7 ≤ ρ 5 ∧ ρ 5 ≤ 7 := b5
  have e0 : 0 + (1 * ρ 0 + (-1 * ρ 6 + 0)) ≤ 0 := e0
  have f0 : 0 + (-1 * ρ 0 + (1 * ρ 6 + 0)) ≤ 0 := f0
  have e1 : 0 + (1 * ρ 1 + (-1 * ρ 7 + 0)) ≤ 0 := e1
  have f1 : 0 + (-1 * ρ 1 + (1 * ρ 7 + 0)) ≤ 0 := f1
  have e2 : 0 + (1 * ρ 2 + (-1 * ρ 8 + 0)) ≤ 0 := e2
  have f2 : 0 + (-1 * ρ 2 + (1 * ρ 8 + 0)) ≤ 0 := f2
  have e3 : 0 + (1 * ρ 3 + (-1 * ρ 9 + 0)) ≤ 0 := e3
  have f3 : 0 + (-1 * ρ 3 + (1 * ρ 9 + 0)) ≤ 0 := f3
  have e4 : 0 + (1 * ρ 4 + (-1 * ρ 10 + 0)) ≤ 0 := e4
  have f4 : 0 + (-1 * ρ 4 + (1 * ρ 10 + 0)) ≤ 0 := f4
  have p11 : ρ0 12 = ρ 11 := p11
  have q0 : x0 = ar 0 := Int32.toInt_inj.mp (by omega)
  have q1 : y0 = ar 1 := Int32.toInt_inj.mp (by omega)
  have q2 : z0 = ar 2 := Int32.toInt_inj.mp (by omega)
  have q3 : w0 = ar 3 := Int32.toInt_inj.mp (by omega)
  have q4 : u0 = ar 4 := Int32.toInt_inj.mp (by omega)
  have q5 : k0 = 7 := Int32.toInt_inj.mp (by rw [k2]; show _ = (7 : Int); omega)
  obtain ⟨r1, rfl, s1⟩ := yarg x1
  rw [s1 1 (by decide)] at y1
  rw [s1 2 (by decide)] at z1
  rw [s1 3 (by decide)] at w1
  rw [s1 4 (by decide)] at u1
  rw [s1 5 (by decide)] at k1
  obtain ⟨r2, rfl, s2⟩ := yarg y1
  rw [s2 2 (by decide)] at z1
  rw [s2 3 (by decide)] at w1
  rw [s2 4 (by decide)] at u1
  rw [s2 5 (by decide)] at k1
  obtain ⟨r3, rfl, s3⟩ := yarg z1
  rw [s3 3 (by decide)] at w1
  rw [s3 4 (by decide)] at u1
  rw [s3 5 (by decide)] at k1
  obtain ⟨r4, rfl, s4⟩ := yarg w1
  rw [s4 4 (by decide)] at u1
  rw [s4 5 (by decide)] at k1
  obtain ⟨r5, rfl, s5⟩ := yarg u1
  rw [s5 5 (by decide)] at k1
  obtain ⟨r6, rfl, s6⟩ := yarg k1
  obtain ⟨mm, run⟩ := ybyte7 x0 y0 z0 w0 u0 r6 d h
  rw [← q5, yby_c (ar' := ar) (by exact q0) (by exact q1) (by exact q2) (by exact q3) (by exact q4)] at run
  have bb := yby_b ar 7
  by_cases hz : yby ar 7 = 0
  · rw [if_pos hz] at g5
    refine ⟨mm, _, h, run, hG, fun _ _ hne => absurd rfl hne, _, List.mem_cons_self .., yexM (fun j => ρ0 (j + 1)) (fun j _ => rfl) ya0 (ya1 ?_ ya0) ya0 ?_⟩
    · show 0 + (1 * ρ0 12 + 0) ≤ 0
      rw [p11]
      omega
    · show (yby ar 7).toInt = 0 + 0
      rw [hz]
      rfl
  · rw [if_neg hz] at g5
    have hz1 : (yby ar 7).toInt ≠ 0 := fun e => hz (Int32.toInt_inj.mp e)
    refine ⟨mm, _, h, run, hG, fun _ _ hne => absurd rfl hne, _, List.mem_cons_of_mem _ (List.mem_cons_self ..), yexM (fun j => if j = 12 then (yby ar 7).toInt else ρ0 (j + 1)) ?_ (ya1 ?_ ya0) (ya1 ?_ ya0) ya0 ?_⟩
    · intro j hj
      have hj : j < 12 := hj
      show (if j = 12 then _ else ρ0 (j + 1)) = _
      rw [if_neg (by omega)]
    · show 1 ≤ (yby ar 7).toInt ∧ (yby ar 7).toInt ≤ 255
      omega
    · show 1 + (-1 * ρ0 12 + 0) ≤ 0
      rw [p11]
      omega
    · show (yby ar 7).toInt = 0 + (1 * (yby ar 7).toInt + 0)
      omega
theorem yT20_ok {t s : Nat} (ht : t < 5) {c0 v0 : Nat → Int} {ar : Nat → Int32} : ySum (yGv t s c0 v0 ar) yT20 := by
  intro args h ρ ρ0 hG hM d hd
  obtain ⟨-, ⟨⟨x0, x1, x2⟩, ⟨y0, y1, y2⟩, ⟨z0, z1, z2⟩, ⟨w0, w1, w2⟩, ⟨u0, u1, u2⟩, ⟨k0, k1, k2⟩, m0, m1, m2, m3, m4, m5, -⟩, ⟨-, -, -, -, -, b5, -⟩, ⟨e0, f0, e1, f1, e2, f2, e3, f3, e4, f4, -⟩, ⟨-, -, -, -, -, -, -, -, -, -, -, p11, -⟩, -⟩ := yun hM
  have g0 : (ar 0).toInt = sv ρ (sY 6) := ysm_gu (a := 15) m0
  have g1 : (ar 1).toInt = sv ρ (sY 7) := ysm_gu (a := 16) m1
  have g2 : (ar 2).toInt = sv ρ (sY 8) := ysm_gu (a := 17) m2
  have g3 : (ar 3).toInt = sv ρ (sY 9) := ysm_gu (a := 18) m3
  have g4 : (ar 4).toInt = sv ρ (sY 10) := ysm_gu (a := 19) m4
  have g5 : (if yby ar 8 = 0 then (0 : Int) else 1) = sv ρ (sY 11) := ysm_gu (a := 28) m5
  rw [sY_v] at g0 g1 g2 g3 g4 g5
  have x2 : x0.toInt = ρ 0 := x2
  have y2 : y0.toInt = ρ 1 := y2
  have z2 : z0.toInt = ρ 2 := z2
  have w2 : w0.toInt = ρ 3 := w2
  have u2 : u0.toInt = ρ 4 := u2
  have k2 : k0.toInt = ρ 5 := k2
  have b5 : 8 ≤ ρ 5 ∧ ρ 5 ≤ 8 := b5
  have e0 : 0 + (1 * ρ 0 + (-1 * ρ 6 + 0)) ≤ 0 := e0
  have f0 : 0 + (-1 * ρ 0 + (1 * ρ 6 + 0)) ≤ 0 := f0
  have e1 : 0 + (1 * ρ 1 + (-1 * ρ 7 + 0)) ≤ 0 := e1
  have f1 : 0 + (-1 * ρ 1 + (1 * ρ 7 + 0)) ≤ 0 := f1
  have e2 : 0 + (1 * ρ 2 + (-1 * ρ 8 + 0)) ≤ 0 := e2
  have f2 : 0 + (-1 * ρ 2 + (1 * ρ 8 + 0)) ≤ 0 := f2
  have e3 : 0 + (1 * ρ 3 + (-1 * ρ 9 + 0)) ≤ 0 := e3
  have f3 : 0 + (-1 * ρ 3 + (1 * ρ 9 + 0)) ≤ 0 := f3
  have e4 : 0 + (1 * ρ 4 + (-1 * ρ 10 + 0)) ≤ 0 := e4
  have f4 : 0 + (-1 * ρ 4 + (1 * ρ 10 + 0)) ≤ 0 := f4
  have p11 : ρ0 12 = ρ 11 := p11
  have q0 : x0 = ar 0 := Int32.toInt_inj.mp (by omega)
  have q1 : y0 = ar 1 := Int32.toInt_inj.mp (by omega)
  have q2 : z0 = ar 2 := Int32.toInt_inj.mp (by omega)
  have q3 : w0 = ar 3 := Int32.toInt_inj.mp (by omega)
  have q4 : u0 = ar 4 := Int32.toInt_inj.mp (by omega)
  have q5 : k0 = 8 := Int32.toInt_inj.mp (by rw [k2]; show _ = (8 : Int); omega)
  obtain ⟨r1, rfl, s1⟩ := yarg x1
  rw [s1 1 (by decide)] at y1
  rw [s1 2 (by decide)] at z1
  rw [s1 3 (by decide)] at w1
  rw [s1 4 (by decide)] at u1
  rw [s1 5 (by decide)] at k1
  obtain ⟨r2, rfl, s2⟩ := yarg y1
  rw [s2 2 (by decide)] at z1
  rw [s2 3 (by decide)] at w1
  rw [s2 4 (by decide)] at u1
  rw [s2 5 (by decide)] at k1
  obtain ⟨r3, rfl, s3⟩ := yarg z1
  rw [s3 3 (by decide)] at w1
  rw [s3 4 (by decide)] at u1
  rw [s3 5 (by decide)] at k1
  obtain ⟨r4, rfl, s4⟩ := yarg w1
  rw [s4 4 (by decide)] at u1
  rw [s4 5 (by decide)] at k1
  obtain ⟨r5, rfl, s5⟩ := yarg u1
  rw [s5 5 (by decide)] at k1
  obtain ⟨r6, rfl, s6⟩ := yarg k1
  obtain ⟨mm, run⟩ := ybyte8 x0 y0 z0 w0 u0 r6 d h
  rw [← q5, yby_c (ar' := ar) (by exact q0) (by exact q1) (by exact q2) (by exact q3) (by exact q4)] at run
  have bb := yby_b ar 8
  by_cases hz : yby ar 8 = 0
  · rw [if_pos hz] at g5
    refine ⟨mm, _, h, run, hG, fun _ _ hne => absurd rfl hne, _, List.mem_cons_self .., yexM (fun j => ρ0 (j + 1)) (fun j _ => rfl) ya0 (ya1 ?_ ya0) ya0 ?_⟩
    · show 0 + (1 * ρ0 12 + 0) ≤ 0
      rw [p11]
      omega
    · show (yby ar 8).toInt = 0 + 0
      rw [hz]
      rfl
  · rw [if_neg hz] at g5
    have hz1 : (yby ar 8).toInt ≠ 0 := fun e => hz (Int32.toInt_inj.mp e)
    refine ⟨mm, _, h, run, hG, fun _ _ hne => absurd rfl hne, _, List.mem_cons_of_mem _ (List.mem_cons_self ..), yexM (fun j => if j = 12 then (yby ar 8).toInt else ρ0 (j + 1)) ?_ (ya1 ?_ ya0) (ya1 ?_ ya0) ya0 ?_⟩
    · intro j hj
      have hj : j < 12 := hj
      show (if j = 12 then _ else ρ0 (j + 1)) = _
      rw [if_neg (by omega)]
    · show 1 ≤ (yby ar 8).toInt ∧ (yby ar 8).toInt ≤ 255
      omega
    · show 1 + (-1 * ρ0 12 + 0) ≤ 0
      rw [p11]
      omega
    · show (yby ar 8).toInt = 0 + (1 * (yby ar 8).toInt + 0)
      omega
theorem yT21_ok {t s : Nat} (ht : t < 5) {c0 v0 : Nat → Int} {ar : Nat → Int32} : ySum (yGv t s c0 v0 ar) yT21 := by
  intro args h ρ ρ0 hG hM d hd
  obtain ⟨-, ⟨⟨x0, x1, x2⟩, ⟨y0, y1, y2⟩, ⟨z0, z1, z2⟩, ⟨w0, w1, w2⟩, ⟨u0, u1, u2⟩, ⟨k0, k1, k2⟩, m0, m1, m2, m3, m4, m5, -⟩, ⟨-, -, -, -, -, b5, -⟩, ⟨e0, f0, e1, f1, e2, f2, e3, f3, e4, f4, -⟩, ⟨-, -, -, -, -, -, -, -, -, -, -, p11, -⟩, -⟩ := yun hM
  have g0 : (ar 0).toInt = sv ρ (sY 6) := ysm_gu (a := 15) m0
  have g1 : (ar 1).toInt = sv ρ (sY 7) := ysm_gu (a := 16) m1
  have g2 : (ar 2).toInt = sv ρ (sY 8) := ysm_gu (a := 17) m2
  have g3 : (ar 3).toInt = sv ρ (sY 9) := ysm_gu (a := 18) m3
  have g4 : (ar 4).toInt = sv ρ (sY 10) := ysm_gu (a := 19) m4
  have g5 : (if yby ar 9 = 0 then (0 : Int) else 1) = sv ρ (sY 11) := ysm_gu (a := 29) m5
  rw [sY_v] at g0 g1 g2 g3 g4 g5
  have x2 : x0.toInt = ρ 0 := x2
  have y2 : y0.toInt = ρ 1 := y2
  have z2 : z0.toInt = ρ 2 := z2
  have w2 : w0.toInt = ρ 3 := w2
  have u2 : u0.toInt = ρ 4 := u2
  have k2 : k0.toInt = ρ 5 := k2
  have b5 : 9 ≤ ρ 5 ∧ ρ 5 ≤ 9 := b5
  have e0 : 0 + (1 * ρ 0 + (-1 * ρ 6 + 0)) ≤ 0 := e0
  have f0 : 0 + (-1 * ρ 0 + (1 * ρ 6 + 0)) ≤ 0 := f0
  have e1 : 0 + (1 * ρ 1 + (-1 * ρ 7 + 0)) ≤ 0 := e1
  have f1 : 0 + (-1 * ρ 1 + (1 * ρ 7 + 0)) ≤ 0 := f1
  have e2 : 0 + (1 * ρ 2 + (-1 * ρ 8 + 0)) ≤ 0 := e2
  have f2 : 0 + (-1 * ρ 2 + (1 * ρ 8 + 0)) ≤ 0 := f2
  have e3 : 0 + (1 * ρ 3 + (-1 * ρ 9 + 0)) ≤ 0 := e3
  have f3 : 0 + (-1 * ρ 3 + (1 * ρ 9 + 0)) ≤ 0 := f3
  have e4 : 0 + (1 * ρ 4 + (-1 * ρ 10 + 0)) ≤ 0 := e4
  have f4 : 0 + (-1 * ρ 4 + (1 * ρ 10 + 0)) ≤ 0 := f4
  have p11 : ρ0 12 = ρ 11 := p11
  have q0 : x0 = ar 0 := Int32.toInt_inj.mp (by omega)
  have q1 : y0 = ar 1 := Int32.toInt_inj.mp (by omega)
  have q2 : z0 = ar 2 := Int32.toInt_inj.mp (by omega)
  have q3 : w0 = ar 3 := Int32.toInt_inj.mp (by omega)
  have q4 : u0 = ar 4 := Int32.toInt_inj.mp (by omega)
  have q5 : k0 = 9 := Int32.toInt_inj.mp (by rw [k2]; show _ = (9 : Int); omega)
  obtain ⟨r1, rfl, s1⟩ := yarg x1
  rw [s1 1 (by decide)] at y1
  rw [s1 2 (by decide)] at z1
  rw [s1 3 (by decide)] at w1
  rw [s1 4 (by decide)] at u1
  rw [s1 5 (by decide)] at k1
  obtain ⟨r2, rfl, s2⟩ := yarg y1
  rw [s2 2 (by decide)] at z1
  rw [s2 3 (by decide)] at w1
  rw [s2 4 (by decide)] at u1
  rw [s2 5 (by decide)] at k1
  obtain ⟨r3, rfl, s3⟩ := yarg z1
  rw [s3 3 (by decide)] at w1
  rw [s3 4 (by decide)] at u1
  rw [s3 5 (by decide)] at k1
  obtain ⟨r4, rfl, s4⟩ := yarg w1
  rw [s4 4 (by decide)] at u1
  rw [s4 5 (by decide)] at k1
  obtain ⟨r5, rfl, s5⟩ := yarg u1
  rw [s5 5 (by decide)] at k1
  obtain ⟨r6, rfl, s6⟩ := yarg k1
  obtain ⟨mm, run⟩ := ybyte9 x0 y0 z0 w0 u0 r6 d h
  rw [← q5, yby_c (ar' := ar) (by exact q0) (by exact q1) (by exact q2) (by exact q3) (by exact q4)] at run
  have bb := yby_b ar 9
  by_cases hz : yby ar 9 = 0
  · rw [if_pos hz] at g5
    refine ⟨mm, _, h, run, hG, fun _ _ hne => absurd rfl hne, _, List.mem_cons_self .., yexM (fun j => ρ0 (j + 1)) (fun j _ => rfl) ya0 (ya1 ?_ ya0) ya0 ?_⟩
    · show 0 + (1 * ρ0 12 + 0) ≤ 0
      rw [p11]
      omega
    · show (yby ar 9).toInt = 0 + 0
      rw [hz]
      rfl
  · rw [if_neg hz] at g5
    have hz1 : (yby ar 9).toInt ≠ 0 := fun e => hz (Int32.toInt_inj.mp e)
    refine ⟨mm, _, h, run, hG, fun _ _ hne => absurd rfl hne, _, List.mem_cons_of_mem _ (List.mem_cons_self ..), yexM (fun j => if j = 12 then (yby ar 9).toInt else ρ0 (j + 1)) ?_ (ya1 ?_ ya0) (ya1 ?_ ya0) ya0 ?_⟩
    · intro j hj
      have hj : j < 12 := hj
      show (if j = 12 then _ else ρ0 (j + 1)) = _
      rw [if_neg (by omega)]
    · show 1 ≤ (yby ar 9).toInt ∧ (yby ar 9).toInt ≤ 255
      omega
    · show 1 + (-1 * ρ0 12 + 0) ≤ 0
      rw [p11]
      omega
    · show (yby ar 9).toInt = 0 + (1 * (yby ar 9).toInt + 0)
      omega
theorem yT22_ok {t s : Nat} (ht : t < 5) {c0 v0 : Nat → Int} {ar : Nat → Int32} : ySum (yGv t s c0 v0 ar) yT22 := by
  intro args h ρ ρ0 hG hM d hd
  obtain ⟨-, ⟨⟨x0, x1, x2⟩, ⟨y0, y1, y2⟩, ⟨z0, z1, z2⟩, ⟨w0, w1, w2⟩, ⟨u0, u1, u2⟩, ⟨k0, k1, k2⟩, m0, m1, m2, m3, m4, m5, -⟩, ⟨-, -, -, -, -, b5, -⟩, ⟨e0, f0, e1, f1, e2, f2, e3, f3, e4, f4, -⟩, ⟨-, -, -, -, -, -, -, -, -, -, -, p11, -⟩, -⟩ := yun hM
  have g0 : (ar 0).toInt = sv ρ (sY 6) := ysm_gu (a := 15) m0
  have g1 : (ar 1).toInt = sv ρ (sY 7) := ysm_gu (a := 16) m1
  have g2 : (ar 2).toInt = sv ρ (sY 8) := ysm_gu (a := 17) m2
  have g3 : (ar 3).toInt = sv ρ (sY 9) := ysm_gu (a := 18) m3
  have g4 : (ar 4).toInt = sv ρ (sY 10) := ysm_gu (a := 19) m4
  have g5 : (if yby ar 10 = 0 then (0 : Int) else 1) = sv ρ (sY 11) := ysm_gu (a := 30) m5
  rw [sY_v] at g0 g1 g2 g3 g4 g5
  have x2 : x0.toInt = ρ 0 := x2
  have y2 : y0.toInt = ρ 1 := y2
  have z2 : z0.toInt = ρ 2 := z2
  have w2 : w0.toInt = ρ 3 := w2
  have u2 : u0.toInt = ρ 4 := u2
  have k2 : k0.toInt = ρ 5 := k2
  have b5 : 10 ≤ ρ 5 ∧ ρ 5 ≤ 10 := b5
  have e0 : 0 + (1 * ρ 0 + (-1 * ρ 6 + 0)) ≤ 0 := e0
  have f0 : 0 + (-1 * ρ 0 + (1 * ρ 6 + 0)) ≤ 0 := f0
  have e1 : 0 + (1 * ρ 1 + (-1 * ρ 7 + 0)) ≤ 0 := e1
  have f1 : 0 + (-1 * ρ 1 + (1 * ρ 7 + 0)) ≤ 0 := f1
  have e2 : 0 + (1 * ρ 2 + (-1 * ρ 8 + 0)) ≤ 0 := e2
  have f2 : 0 + (-1 * ρ 2 + (1 * ρ 8 + 0)) ≤ 0 := f2
  have e3 : 0 + (1 * ρ 3 + (-1 * ρ 9 + 0)) ≤ 0 := e3
  have f3 : 0 + (-1 * ρ 3 + (1 * ρ 9 + 0)) ≤ 0 := f3
  have e4 : 0 + (1 * ρ 4 + (-1 * ρ 10 + 0)) ≤ 0 := e4
  have f4 : 0 + (-1 * ρ 4 + (1 * ρ 10 + 0)) ≤ 0 := f4
  have p11 : ρ0 12 = ρ 11 := p11
  have q0 : x0 = ar 0 := Int32.toInt_inj.mp (by omega)
  have q1 : y0 = ar 1 := Int32.toInt_inj.mp (by omega)
  have q2 : z0 = ar 2 := Int32.toInt_inj.mp (by omega)
  have q3 : w0 = ar 3 := Int32.toInt_inj.mp (by omega)
  have q4 : u0 = ar 4 := Int32.toInt_inj.mp (by omega)
  have q5 : k0 = 10 := Int32.toInt_inj.mp (by rw [k2]; show _ = (10 : Int); omega)
  obtain ⟨r1, rfl, s1⟩ := yarg x1
  rw [s1 1 (by decide)] at y1
  rw [s1 2 (by decide)] at z1
  rw [s1 3 (by decide)] at w1
  rw [s1 4 (by decide)] at u1
  rw [s1 5 (by decide)] at k1
  obtain ⟨r2, rfl, s2⟩ := yarg y1
  rw [s2 2 (by decide)] at z1
  rw [s2 3 (by decide)] at w1
  rw [s2 4 (by decide)] at u1
  rw [s2 5 (by decide)] at k1
  obtain ⟨r3, rfl, s3⟩ := yarg z1
  rw [s3 3 (by decide)] at w1
  rw [s3 4 (by decide)] at u1
  rw [s3 5 (by decide)] at k1
  obtain ⟨r4, rfl, s4⟩ := yarg w1
  rw [s4 4 (by decide)] at u1
  rw [s4 5 (by decide)] at k1
  obtain ⟨r5, rfl, s5⟩ := yarg u1
  rw [s5 5 (by decide)] at k1
  obtain ⟨r6, rfl, s6⟩ := yarg k1
  obtain ⟨mm, run⟩ := ybyte10 x0 y0 z0 w0 u0 r6 d h
  rw [← q5, yby_c (ar' := ar) (by exact q0) (by exact q1) (by exact q2) (by exact q3) (by exact q4)] at run
  have bb := yby_b ar 10
  by_cases hz : yby ar 10 = 0
  · rw [if_pos hz] at g5
    refine ⟨mm, _, h, run, hG, fun _ _ hne => absurd rfl hne, _, List.mem_cons_self .., yexM (fun j => ρ0 (j + 1)) (fun j _ => rfl) ya0 (ya1 ?_ ya0) ya0 ?_⟩
    · show 0 + (1 * ρ0 12 + 0) ≤ 0
      rw [p11]
      omega
    · show (yby ar 10).toInt = 0 + 0
      rw [hz]
      rfl
  · rw [if_neg hz] at g5
    have hz1 : (yby ar 10).toInt ≠ 0 := fun e => hz (Int32.toInt_inj.mp e)
    refine ⟨mm, _, h, run, hG, fun _ _ hne => absurd rfl hne, _, List.mem_cons_of_mem _ (List.mem_cons_self ..), yexM (fun j => if j = 12 then (yby ar 10).toInt else ρ0 (j + 1)) ?_ (ya1 ?_ ya0) (ya1 ?_ ya0) ya0 ?_⟩
    · intro j hj
      have hj : j < 12 := hj
      show (if j = 12 then _ else ρ0 (j + 1)) = _
      rw [if_neg (by omega)]
    · show 1 ≤ (yby ar 10).toInt ∧ (yby ar 10).toInt ≤ 255
      omega
    · show 1 + (-1 * ρ0 12 + 0) ≤ 0
      rw [p11]
      omega
    · show (yby ar 10).toInt = 0 + (1 * (yby ar 10).toInt + 0)
      omega
theorem yT23_ok {t s : Nat} (ht : t < 5) {c0 v0 : Nat → Int} {ar : Nat → Int32} : ySum (yGv t s c0 v0 ar) yT23 := by
  intro args h ρ ρ0 hG hM d hd
  obtain ⟨-, ⟨⟨x0, x1, x2⟩, ⟨y0, y1, y2⟩, ⟨z0, z1, z2⟩, ⟨w0, w1, w2⟩, ⟨u0, u1, u2⟩, ⟨k0, k1, k2⟩, m0, m1, m2, m3, m4, m5, -⟩, ⟨-, -, -, -, -, b5, -⟩, ⟨e0, f0, e1, f1, e2, f2, e3, f3, e4, f4, -⟩, ⟨-, -, -, -, -, -, -, -, -, -, -, p11, -⟩, -⟩ := yun hM
  have g0 : (ar 0).toInt = sv ρ (sY 6) := ysm_gu (a := 15) m0
  have g1 : (ar 1).toInt = sv ρ (sY 7) := ysm_gu (a := 16) m1
  have g2 : (ar 2).toInt = sv ρ (sY 8) := ysm_gu (a := 17) m2
  have g3 : (ar 3).toInt = sv ρ (sY 9) := ysm_gu (a := 18) m3
  have g4 : (ar 4).toInt = sv ρ (sY 10) := ysm_gu (a := 19) m4
  have g5 : (if yby ar 11 = 0 then (0 : Int) else 1) = sv ρ (sY 11) := ysm_gu (a := 31) m5
  rw [sY_v] at g0 g1 g2 g3 g4 g5
  have x2 : x0.toInt = ρ 0 := x2
  have y2 : y0.toInt = ρ 1 := y2
  have z2 : z0.toInt = ρ 2 := z2
  have w2 : w0.toInt = ρ 3 := w2
  have u2 : u0.toInt = ρ 4 := u2
  have k2 : k0.toInt = ρ 5 := k2
  have b5 : 11 ≤ ρ 5 ∧ ρ 5 ≤ 11 := b5
  have e0 : 0 + (1 * ρ 0 + (-1 * ρ 6 + 0)) ≤ 0 := e0
  have f0 : 0 + (-1 * ρ 0 + (1 * ρ 6 + 0)) ≤ 0 := f0
  have e1 : 0 + (1 * ρ 1 + (-1 * ρ 7 + 0)) ≤ 0 := e1
  have f1 : 0 + (-1 * ρ 1 + (1 * ρ 7 + 0)) ≤ 0 := f1
  have e2 : 0 + (1 * ρ 2 + (-1 * ρ 8 + 0)) ≤ 0 := e2
  have f2 : 0 + (-1 * ρ 2 + (1 * ρ 8 + 0)) ≤ 0 := f2
  have e3 : 0 + (1 * ρ 3 + (-1 * ρ 9 + 0)) ≤ 0 := e3
  have f3 : 0 + (-1 * ρ 3 + (1 * ρ 9 + 0)) ≤ 0 := f3
  have e4 : 0 + (1 * ρ 4 + (-1 * ρ 10 + 0)) ≤ 0 := e4
  have f4 : 0 + (-1 * ρ 4 + (1 * ρ 10 + 0)) ≤ 0 := f4
  have p11 : ρ0 12 = ρ 11 := p11
  have q0 : x0 = ar 0 := Int32.toInt_inj.mp (by omega)
  have q1 : y0 = ar 1 := Int32.toInt_inj.mp (by omega)
  have q2 : z0 = ar 2 := Int32.toInt_inj.mp (by omega)
  have q3 : w0 = ar 3 := Int32.toInt_inj.mp (by omega)
  have q4 : u0 = ar 4 := Int32.toInt_inj.mp (by omega)
  have q5 : k0 = 11 := Int32.toInt_inj.mp (by rw [k2]; show _ = (11 : Int); omega)
  obtain ⟨r1, rfl, s1⟩ := yarg x1
  rw [s1 1 (by decide)] at y1
  rw [s1 2 (by decide)] at z1
  rw [s1 3 (by decide)] at w1
  rw [s1 4 (by decide)] at u1
  rw [s1 5 (by decide)] at k1
  obtain ⟨r2, rfl, s2⟩ := yarg y1
  rw [s2 2 (by decide)] at z1
  rw [s2 3 (by decide)] at w1
  rw [s2 4 (by decide)] at u1
  rw [s2 5 (by decide)] at k1
  obtain ⟨r3, rfl, s3⟩ := yarg z1
  rw [s3 3 (by decide)] at w1
  rw [s3 4 (by decide)] at u1
  rw [s3 5 (by decide)] at k1
  obtain ⟨r4, rfl, s4⟩ := yarg w1
  rw [s4 4 (by decide)] at u1
  rw [s4 5 (by decide)] at k1
  obtain ⟨r5, rfl, s5⟩ := yarg u1
  rw [s5 5 (by decide)] at k1
  obtain ⟨r6, rfl, s6⟩ := yarg k1
  obtain ⟨mm, run⟩ := ybyte11 x0 y0 z0 w0 u0 r6 d h
  rw [← q5, yby_c (ar' := ar) (by exact q0) (by exact q1) (by exact q2) (by exact q3) (by exact q4)] at run
  have bb := yby_b ar 11
  by_cases hz : yby ar 11 = 0
  · rw [if_pos hz] at g5
    refine ⟨mm, _, h, run, hG, fun _ _ hne => absurd rfl hne, _, List.mem_cons_self .., yexM (fun j => ρ0 (j + 1)) (fun j _ => rfl) ya0 (ya1 ?_ ya0) ya0 ?_⟩
    · show 0 + (1 * ρ0 12 + 0) ≤ 0
      rw [p11]
      omega
    · show (yby ar 11).toInt = 0 + 0
      rw [hz]
      rfl
  · rw [if_neg hz] at g5
    have hz1 : (yby ar 11).toInt ≠ 0 := fun e => hz (Int32.toInt_inj.mp e)
    refine ⟨mm, _, h, run, hG, fun _ _ hne => absurd rfl hne, _, List.mem_cons_of_mem _ (List.mem_cons_self ..), yexM (fun j => if j = 12 then (yby ar 11).toInt else ρ0 (j + 1)) ?_ (ya1 ?_ ya0) (ya1 ?_ ya0) ya0 ?_⟩
    · intro j hj
      have hj : j < 12 := hj
      show (if j = 12 then _ else ρ0 (j + 1)) = _
      rw [if_neg (by omega)]
    · show 1 ≤ (yby ar 11).toInt ∧ (yby ar 11).toInt ≤ 255
      omega
    · show 1 + (-1 * ρ0 12 + 0) ≤ 0
      rw [p11]
      omega
    · show (yby ar 11).toInt = 0 + (1 * (yby ar 11).toInt + 0)
      omega
theorem yT24_ok {t s : Nat} (ht : t < 5) {c0 v0 : Nat → Int} {ar : Nat → Int32} : ySum (yGv t s c0 v0 ar) yT24 := by
  intro args h ρ ρ0 hG hM d hd
  obtain ⟨-, ⟨⟨x0, x1, x2⟩, ⟨y0, y1, y2⟩, ⟨z0, z1, z2⟩, ⟨w0, w1, w2⟩, ⟨u0, u1, u2⟩, ⟨k0, k1, k2⟩, m0, m1, m2, m3, m4, m5, -⟩, ⟨-, -, -, -, -, b5, -⟩, ⟨e0, f0, e1, f1, e2, f2, e3, f3, e4, f4, -⟩, ⟨-, -, -, -, -, -, -, -, -, -, -, p11, -⟩, -⟩ := yun hM
  have g0 : (ar 0).toInt = sv ρ (sY 6) := ysm_gu (a := 15) m0
  have g1 : (ar 1).toInt = sv ρ (sY 7) := ysm_gu (a := 16) m1
  have g2 : (ar 2).toInt = sv ρ (sY 8) := ysm_gu (a := 17) m2
  have g3 : (ar 3).toInt = sv ρ (sY 9) := ysm_gu (a := 18) m3
  have g4 : (ar 4).toInt = sv ρ (sY 10) := ysm_gu (a := 19) m4
  have g5 : (if yby ar 12 = 0 then (0 : Int) else 1) = sv ρ (sY 11) := ysm_gu (a := 32) m5
  rw [sY_v] at g0 g1 g2 g3 g4 g5
  have x2 : x0.toInt = ρ 0 := x2
  have y2 : y0.toInt = ρ 1 := y2
  have z2 : z0.toInt = ρ 2 := z2
  have w2 : w0.toInt = ρ 3 := w2
  have u2 : u0.toInt = ρ 4 := u2
  have k2 : k0.toInt = ρ 5 := k2
  have b5 : 12 ≤ ρ 5 ∧ ρ 5 ≤ 12 := b5
  have e0 : 0 + (1 * ρ 0 + (-1 * ρ 6 + 0)) ≤ 0 := e0
  have f0 : 0 + (-1 * ρ 0 + (1 * ρ 6 + 0)) ≤ 0 := f0
  have e1 : 0 + (1 * ρ 1 + (-1 * ρ 7 + 0)) ≤ 0 := e1
  have f1 : 0 + (-1 * ρ 1 + (1 * ρ 7 + 0)) ≤ 0 := f1
  have e2 : 0 + (1 * ρ 2 + (-1 * ρ 8 + 0)) ≤ 0 := e2
  have f2 : 0 + (-1 * ρ 2 + (1 * ρ 8 + 0)) ≤ 0 := f2
  have e3 : 0 + (1 * ρ 3 + (-1 * ρ 9 + 0)) ≤ 0 := e3
  have f3 : 0 + (-1 * ρ 3 + (1 * ρ 9 + 0)) ≤ 0 := f3
  have e4 : 0 + (1 * ρ 4 + (-1 * ρ 10 + 0)) ≤ 0 := e4
  have f4 : 0 + (-1 * ρ 4 + (1 * ρ 10 + 0)) ≤ 0 := f4
  have p11 : ρ0 12 = ρ 11 := p11
  have q0 : x0 = ar 0 := Int32.toInt_inj.mp (by omega)
  have q1 : y0 = ar 1 := Int32.toInt_inj.mp (by omega)
  have q2 : z0 = ar 2 := Int32.toInt_inj.mp (by omega)
  have q3 : w0 = ar 3 := Int32.toInt_inj.mp (by omega)
  have q4 : u0 = ar 4 := Int32.toInt_inj.mp (by omega)
  have q5 : k0 = 12 := Int32.toInt_inj.mp (by rw [k2]; show _ = (12 : Int); omega)
  obtain ⟨r1, rfl, s1⟩ := yarg x1
  rw [s1 1 (by decide)] at y1
  rw [s1 2 (by decide)] at z1
  rw [s1 3 (by decide)] at w1
  rw [s1 4 (by decide)] at u1
  rw [s1 5 (by decide)] at k1
  obtain ⟨r2, rfl, s2⟩ := yarg y1
  rw [s2 2 (by decide)] at z1
  rw [s2 3 (by decide)] at w1
  rw [s2 4 (by decide)] at u1
  rw [s2 5 (by decide)] at k1
  obtain ⟨r3, rfl, s3⟩ := yarg z1
  rw [s3 3 (by decide)] at w1
  rw [s3 4 (by decide)] at u1
  rw [s3 5 (by decide)] at k1
  obtain ⟨r4, rfl, s4⟩ := yarg w1
  rw [s4 4 (by decide)] at u1
  rw [s4 5 (by decide)] at k1
  obtain ⟨r5, rfl, s5⟩ := yarg u1
  rw [s5 5 (by decide)] at k1
  obtain ⟨r6, rfl, s6⟩ := yarg k1
  obtain ⟨mm, run⟩ := ybyte12 x0 y0 z0 w0 u0 r6 d h
  rw [← q5, yby_c (ar' := ar) (by exact q0) (by exact q1) (by exact q2) (by exact q3) (by exact q4)] at run
  have bb := yby_b ar 12
  by_cases hz : yby ar 12 = 0
  · rw [if_pos hz] at g5
    refine ⟨mm, _, h, run, hG, fun _ _ hne => absurd rfl hne, _, List.mem_cons_self .., yexM (fun j => ρ0 (j + 1)) (fun j _ => rfl) ya0 (ya1 ?_ ya0) ya0 ?_⟩
    · show 0 + (1 * ρ0 12 + 0) ≤ 0
      rw [p11]
      omega
    · show (yby ar 12).toInt = 0 + 0
      rw [hz]
      rfl
  · rw [if_neg hz] at g5
    have hz1 : (yby ar 12).toInt ≠ 0 := fun e => hz (Int32.toInt_inj.mp e)
    refine ⟨mm, _, h, run, hG, fun _ _ hne => absurd rfl hne, _, List.mem_cons_of_mem _ (List.mem_cons_self ..), yexM (fun j => if j = 12 then (yby ar 12).toInt else ρ0 (j + 1)) ?_ (ya1 ?_ ya0) (ya1 ?_ ya0) ya0 ?_⟩
    · intro j hj
      have hj : j < 12 := hj
      show (if j = 12 then _ else ρ0 (j + 1)) = _
      rw [if_neg (by omega)]
    · show 1 ≤ (yby ar 12).toInt ∧ (yby ar 12).toInt ≤ 255
      omega
    · show 1 + (-1 * ρ0 12 + 0) ≤ 0
      rw [p11]
      omega
    · show (yby ar 12).toInt = 0 + (1 * (yby ar 12).toInt + 0)
      omega
theorem yT25_ok {t s : Nat} (ht : t < 5) {c0 v0 : Nat → Int} {ar : Nat → Int32} : ySum (yGv t s c0 v0 ar) yT25 := by
  intro args h ρ ρ0 hG hM d hd
  obtain ⟨-, ⟨⟨x0, x1, x2⟩, ⟨y0, y1, y2⟩, ⟨z0, z1, z2⟩, ⟨w0, w1, w2⟩, ⟨u0, u1, u2⟩, ⟨k0, k1, k2⟩, m0, m1, m2, m3, m4, m5, -⟩, ⟨-, -, -, -, -, b5, -⟩, ⟨e0, f0, e1, f1, e2, f2, e3, f3, e4, f4, -⟩, ⟨-, -, -, -, -, -, -, -, -, -, -, p11, -⟩, -⟩ := yun hM
  have g0 : (ar 0).toInt = sv ρ (sY 6) := ysm_gu (a := 15) m0
  have g1 : (ar 1).toInt = sv ρ (sY 7) := ysm_gu (a := 16) m1
  have g2 : (ar 2).toInt = sv ρ (sY 8) := ysm_gu (a := 17) m2
  have g3 : (ar 3).toInt = sv ρ (sY 9) := ysm_gu (a := 18) m3
  have g4 : (ar 4).toInt = sv ρ (sY 10) := ysm_gu (a := 19) m4
  have g5 : (if yby ar 13 = 0 then (0 : Int) else 1) = sv ρ (sY 11) := ysm_gu (a := 33) m5
  rw [sY_v] at g0 g1 g2 g3 g4 g5
  have x2 : x0.toInt = ρ 0 := x2
  have y2 : y0.toInt = ρ 1 := y2
  have z2 : z0.toInt = ρ 2 := z2
  have w2 : w0.toInt = ρ 3 := w2
  have u2 : u0.toInt = ρ 4 := u2
  have k2 : k0.toInt = ρ 5 := k2
  have b5 : 13 ≤ ρ 5 ∧ ρ 5 ≤ 13 := b5
  have e0 : 0 + (1 * ρ 0 + (-1 * ρ 6 + 0)) ≤ 0 := e0
  have f0 : 0 + (-1 * ρ 0 + (1 * ρ 6 + 0)) ≤ 0 := f0
  have e1 : 0 + (1 * ρ 1 + (-1 * ρ 7 + 0)) ≤ 0 := e1
  have f1 : 0 + (-1 * ρ 1 + (1 * ρ 7 + 0)) ≤ 0 := f1
  have e2 : 0 + (1 * ρ 2 + (-1 * ρ 8 + 0)) ≤ 0 := e2
  have f2 : 0 + (-1 * ρ 2 + (1 * ρ 8 + 0)) ≤ 0 := f2
  have e3 : 0 + (1 * ρ 3 + (-1 * ρ 9 + 0)) ≤ 0 := e3
  have f3 : 0 + (-1 * ρ 3 + (1 * ρ 9 + 0)) ≤ 0 := f3
  have e4 : 0 + (1 * ρ 4 + (-1 * ρ 10 + 0)) ≤ 0 := e4
  have f4 : 0 + (-1 * ρ 4 + (1 * ρ 10 + 0)) ≤ 0 := f4
  have p11 : ρ0 12 = ρ 11 := p11
  have q0 : x0 = ar 0 := Int32.toInt_inj.mp (by omega)
  have q1 : y0 = ar 1 := Int32.toInt_inj.mp (by omega)
  have q2 : z0 = ar 2 := Int32.toInt_inj.mp (by omega)
  have q3 : w0 = ar 3 := Int32.toInt_inj.mp (by omega)
  have q4 : u0 = ar 4 := Int32.toInt_inj.mp (by omega)
  have q5 : k0 = 13 := Int32.toInt_inj.mp (by rw [k2]; show _ = (13 : Int); omega)
  obtain ⟨r1, rfl, s1⟩ := yarg x1
  rw [s1 1 (by decide)] at y1
  rw [s1 2 (by decide)] at z1
  rw [s1 3 (by decide)] at w1
  rw [s1 4 (by decide)] at u1
  rw [s1 5 (by decide)] at k1
  obtain ⟨r2, rfl, s2⟩ := yarg y1
  rw [s2 2 (by decide)] at z1
  rw [s2 3 (by decide)] at w1
  rw [s2 4 (by decide)] at u1
  rw [s2 5 (by decide)] at k1
  obtain ⟨r3, rfl, s3⟩ := yarg z1
  rw [s3 3 (by decide)] at w1
  rw [s3 4 (by decide)] at u1
  rw [s3 5 (by decide)] at k1
  obtain ⟨r4, rfl, s4⟩ := yarg w1
  rw [s4 4 (by decide)] at u1
  rw [s4 5 (by decide)] at k1
  obtain ⟨r5, rfl, s5⟩ := yarg u1
  rw [s5 5 (by decide)] at k1
  obtain ⟨r6, rfl, s6⟩ := yarg k1
  obtain ⟨mm, run⟩ := ybyte13 x0 y0 z0 w0 u0 r6 d h
  rw [← q5, yby_c (ar' := ar) (by exact q0) (by exact q1) (by exact q2) (by exact q3) (by exact q4)] at run
  have bb := yby_b ar 13
  by_cases hz : yby ar 13 = 0
  · rw [if_pos hz] at g5
    refine ⟨mm, _, h, run, hG, fun _ _ hne => absurd rfl hne, _, List.mem_cons_self .., yexM (fun j => ρ0 (j + 1)) (fun j _ => rfl) ya0 (ya1 ?_ ya0) ya0 ?_⟩
    · show 0 + (1 * ρ0 12 + 0) ≤ 0
      rw [p11]
      omega
    · show (yby ar 13).toInt = 0 + 0
      rw [hz]
      rfl
  · rw [if_neg hz] at g5
    have hz1 : (yby ar 13).toInt ≠ 0 := fun e => hz (Int32.toInt_inj.mp e)
    refine ⟨mm, _, h, run, hG, fun _ _ hne => absurd rfl hne, _, List.mem_cons_of_mem _ (List.mem_cons_self ..), yexM (fun j => if j = 12 then (yby ar 13).toInt else ρ0 (j + 1)) ?_ (ya1 ?_ ya0) (ya1 ?_ ya0) ya0 ?_⟩
    · intro j hj
      have hj : j < 12 := hj
      show (if j = 12 then _ else ρ0 (j + 1)) = _
      rw [if_neg (by omega)]
    · show 1 ≤ (yby ar 13).toInt ∧ (yby ar 13).toInt ≤ 255
      omega
    · show 1 + (-1 * ρ0 12 + 0) ≤ 0
      rw [p11]
      omega
    · show (yby ar 13).toInt = 0 + (1 * (yby ar 13).toInt + 0)
      omega
theorem yT26_ok {t s : Nat} (ht : t < 5) {c0 v0 : Nat → Int} {ar : Nat → Int32} : ySum (yGv t s c0 v0 ar) yT26 := by
  intro args h ρ ρ0 hG hM d hd
  obtain ⟨-, ⟨⟨x0, x1, x2⟩, ⟨y0, y1, y2⟩, ⟨z0, z1, z2⟩, ⟨w0, w1, w2⟩, ⟨u0, u1, u2⟩, ⟨k0, k1, k2⟩, m0, m1, m2, m3, m4, m5, -⟩, ⟨-, -, -, -, -, b5, -⟩, ⟨e0, f0, e1, f1, e2, f2, e3, f3, e4, f4, -⟩, ⟨-, -, -, -, -, -, -, -, -, -, -, p11, -⟩, -⟩ := yun hM
  have g0 : (ar 0).toInt = sv ρ (sY 6) := ysm_gu (a := 15) m0
  have g1 : (ar 1).toInt = sv ρ (sY 7) := ysm_gu (a := 16) m1
  have g2 : (ar 2).toInt = sv ρ (sY 8) := ysm_gu (a := 17) m2
  have g3 : (ar 3).toInt = sv ρ (sY 9) := ysm_gu (a := 18) m3
  have g4 : (ar 4).toInt = sv ρ (sY 10) := ysm_gu (a := 19) m4
  have g5 : (if yby ar 14 = 0 then (0 : Int) else 1) = sv ρ (sY 11) := ysm_gu (a := 34) m5
  rw [sY_v] at g0 g1 g2 g3 g4 g5
  have x2 : x0.toInt = ρ 0 := x2
  have y2 : y0.toInt = ρ 1 := y2
  have z2 : z0.toInt = ρ 2 := z2
  have w2 : w0.toInt = ρ 3 := w2
  have u2 : u0.toInt = ρ 4 := u2
  have k2 : k0.toInt = ρ 5 := k2
  have b5 : 14 ≤ ρ 5 ∧ ρ 5 ≤ 14 := b5
  have e0 : 0 + (1 * ρ 0 + (-1 * ρ 6 + 0)) ≤ 0 := e0
  have f0 : 0 + (-1 * ρ 0 + (1 * ρ 6 + 0)) ≤ 0 := f0
  have e1 : 0 + (1 * ρ 1 + (-1 * ρ 7 + 0)) ≤ 0 := e1
  have f1 : 0 + (-1 * ρ 1 + (1 * ρ 7 + 0)) ≤ 0 := f1
  have e2 : 0 + (1 * ρ 2 + (-1 * ρ 8 + 0)) ≤ 0 := e2
  have f2 : 0 + (-1 * ρ 2 + (1 * ρ 8 + 0)) ≤ 0 := f2
  have e3 : 0 + (1 * ρ 3 + (-1 * ρ 9 + 0)) ≤ 0 := e3
  have f3 : 0 + (-1 * ρ 3 + (1 * ρ 9 + 0)) ≤ 0 := f3
  have e4 : 0 + (1 * ρ 4 + (-1 * ρ 10 + 0)) ≤ 0 := e4
  have f4 : 0 + (-1 * ρ 4 + (1 * ρ 10 + 0)) ≤ 0 := f4
  have p11 : ρ0 12 = ρ 11 := p11
  have q0 : x0 = ar 0 := Int32.toInt_inj.mp (by omega)
  have q1 : y0 = ar 1 := Int32.toInt_inj.mp (by omega)
  have q2 : z0 = ar 2 := Int32.toInt_inj.mp (by omega)
  have q3 : w0 = ar 3 := Int32.toInt_inj.mp (by omega)
  have q4 : u0 = ar 4 := Int32.toInt_inj.mp (by omega)
  have q5 : k0 = 14 := Int32.toInt_inj.mp (by rw [k2]; show _ = (14 : Int); omega)
  obtain ⟨r1, rfl, s1⟩ := yarg x1
  rw [s1 1 (by decide)] at y1
  rw [s1 2 (by decide)] at z1
  rw [s1 3 (by decide)] at w1
  rw [s1 4 (by decide)] at u1
  rw [s1 5 (by decide)] at k1
  obtain ⟨r2, rfl, s2⟩ := yarg y1
  rw [s2 2 (by decide)] at z1
  rw [s2 3 (by decide)] at w1
  rw [s2 4 (by decide)] at u1
  rw [s2 5 (by decide)] at k1
  obtain ⟨r3, rfl, s3⟩ := yarg z1
  rw [s3 3 (by decide)] at w1
  rw [s3 4 (by decide)] at u1
  rw [s3 5 (by decide)] at k1
  obtain ⟨r4, rfl, s4⟩ := yarg w1
  rw [s4 4 (by decide)] at u1
  rw [s4 5 (by decide)] at k1
  obtain ⟨r5, rfl, s5⟩ := yarg u1
  rw [s5 5 (by decide)] at k1
  obtain ⟨r6, rfl, s6⟩ := yarg k1
  obtain ⟨mm, run⟩ := ybyte14 x0 y0 z0 w0 u0 r6 d h
  rw [← q5, yby_c (ar' := ar) (by exact q0) (by exact q1) (by exact q2) (by exact q3) (by exact q4)] at run
  have bb := yby_b ar 14
  by_cases hz : yby ar 14 = 0
  · rw [if_pos hz] at g5
    refine ⟨mm, _, h, run, hG, fun _ _ hne => absurd rfl hne, _, List.mem_cons_self .., yexM (fun j => ρ0 (j + 1)) (fun j _ => rfl) ya0 (ya1 ?_ ya0) ya0 ?_⟩
    · show 0 + (1 * ρ0 12 + 0) ≤ 0
      rw [p11]
      omega
    · show (yby ar 14).toInt = 0 + 0
      rw [hz]
      rfl
  · rw [if_neg hz] at g5
    have hz1 : (yby ar 14).toInt ≠ 0 := fun e => hz (Int32.toInt_inj.mp e)
    refine ⟨mm, _, h, run, hG, fun _ _ hne => absurd rfl hne, _, List.mem_cons_of_mem _ (List.mem_cons_self ..), yexM (fun j => if j = 12 then (yby ar 14).toInt else ρ0 (j + 1)) ?_ (ya1 ?_ ya0) (ya1 ?_ ya0) ya0 ?_⟩
    · intro j hj
      have hj : j < 12 := hj
      show (if j = 12 then _ else ρ0 (j + 1)) = _
      rw [if_neg (by omega)]
    · show 1 ≤ (yby ar 14).toInt ∧ (yby ar 14).toInt ≤ 255
      omega
    · show 1 + (-1 * ρ0 12 + 0) ≤ 0
      rw [p11]
      omega
    · show (yby ar 14).toInt = 0 + (1 * (yby ar 14).toInt + 0)
      omega
theorem yT27_ok {t s : Nat} (ht : t < 5) {c0 v0 : Nat → Int} {ar : Nat → Int32} : ySum (yGv t s c0 v0 ar) yT27 := by
  intro args h ρ ρ0 hG hM d hd
  obtain ⟨-, ⟨⟨x0, x1, x2⟩, ⟨y0, y1, y2⟩, ⟨z0, z1, z2⟩, ⟨w0, w1, w2⟩, ⟨u0, u1, u2⟩, ⟨k0, k1, k2⟩, m0, m1, m2, m3, m4, m5, -⟩, ⟨-, -, -, -, -, b5, -⟩, ⟨e0, f0, e1, f1, e2, f2, e3, f3, e4, f4, -⟩, ⟨-, -, -, -, -, -, -, -, -, -, -, p11, -⟩, -⟩ := yun hM
  have g0 : (ar 0).toInt = sv ρ (sY 6) := ysm_gu (a := 15) m0
  have g1 : (ar 1).toInt = sv ρ (sY 7) := ysm_gu (a := 16) m1
  have g2 : (ar 2).toInt = sv ρ (sY 8) := ysm_gu (a := 17) m2
  have g3 : (ar 3).toInt = sv ρ (sY 9) := ysm_gu (a := 18) m3
  have g4 : (ar 4).toInt = sv ρ (sY 10) := ysm_gu (a := 19) m4
  have g5 : (if yby ar 15 = 0 then (0 : Int) else 1) = sv ρ (sY 11) := ysm_gu (a := 35) m5
  rw [sY_v] at g0 g1 g2 g3 g4 g5
  have x2 : x0.toInt = ρ 0 := x2
  have y2 : y0.toInt = ρ 1 := y2
  have z2 : z0.toInt = ρ 2 := z2
  have w2 : w0.toInt = ρ 3 := w2
  have u2 : u0.toInt = ρ 4 := u2
  have k2 : k0.toInt = ρ 5 := k2
  have b5 : 15 ≤ ρ 5 ∧ ρ 5 ≤ 15 := b5
  have e0 : 0 + (1 * ρ 0 + (-1 * ρ 6 + 0)) ≤ 0 := e0
  have f0 : 0 + (-1 * ρ 0 + (1 * ρ 6 + 0)) ≤ 0 := f0
  have e1 : 0 + (1 * ρ 1 + (-1 * ρ 7 + 0)) ≤ 0 := e1
  have f1 : 0 + (-1 * ρ 1 + (1 * ρ 7 + 0)) ≤ 0 := f1
  have e2 : 0 + (1 * ρ 2 + (-1 * ρ 8 + 0)) ≤ 0 := e2
  have f2 : 0 + (-1 * ρ 2 + (1 * ρ 8 + 0)) ≤ 0 := f2
  have e3 : 0 + (1 * ρ 3 + (-1 * ρ 9 + 0)) ≤ 0 := e3
  have f3 : 0 + (-1 * ρ 3 + (1 * ρ 9 + 0)) ≤ 0 := f3
  have e4 : 0 + (1 * ρ 4 + (-1 * ρ 10 + 0)) ≤ 0 := e4
  have f4 : 0 + (-1 * ρ 4 + (1 * ρ 10 + 0)) ≤ 0 := f4
  have p11 : ρ0 12 = ρ 11 := p11
  have q0 : x0 = ar 0 := Int32.toInt_inj.mp (by omega)
  have q1 : y0 = ar 1 := Int32.toInt_inj.mp (by omega)
  have q2 : z0 = ar 2 := Int32.toInt_inj.mp (by omega)
  have q3 : w0 = ar 3 := Int32.toInt_inj.mp (by omega)
  have q4 : u0 = ar 4 := Int32.toInt_inj.mp (by omega)
  have q5 : k0 = 15 := Int32.toInt_inj.mp (by rw [k2]; show _ = (15 : Int); omega)
  obtain ⟨r1, rfl, s1⟩ := yarg x1
  rw [s1 1 (by decide)] at y1
  rw [s1 2 (by decide)] at z1
  rw [s1 3 (by decide)] at w1
  rw [s1 4 (by decide)] at u1
  rw [s1 5 (by decide)] at k1
  obtain ⟨r2, rfl, s2⟩ := yarg y1
  rw [s2 2 (by decide)] at z1
  rw [s2 3 (by decide)] at w1
  rw [s2 4 (by decide)] at u1
  rw [s2 5 (by decide)] at k1
  obtain ⟨r3, rfl, s3⟩ := yarg z1
  rw [s3 3 (by decide)] at w1
  rw [s3 4 (by decide)] at u1
  rw [s3 5 (by decide)] at k1
  obtain ⟨r4, rfl, s4⟩ := yarg w1
  rw [s4 4 (by decide)] at u1
  rw [s4 5 (by decide)] at k1
  obtain ⟨r5, rfl, s5⟩ := yarg u1
  rw [s5 5 (by decide)] at k1
  obtain ⟨r6, rfl, s6⟩ := yarg k1
  obtain ⟨mm, run⟩ := ybyte15 x0 y0 z0 w0 u0 r6 d h
  rw [← q5, yby_c (ar' := ar) (by exact q0) (by exact q1) (by exact q2) (by exact q3) (by exact q4)] at run
  have bb := yby_b ar 15
  by_cases hz : yby ar 15 = 0
  · rw [if_pos hz] at g5
    refine ⟨mm, _, h, run, hG, fun _ _ hne => absurd rfl hne, _, List.mem_cons_self .., yexM (fun j => ρ0 (j + 1)) (fun j _ => rfl) ya0 (ya1 ?_ ya0) ya0 ?_⟩
    · show 0 + (1 * ρ0 12 + 0) ≤ 0
      rw [p11]
      omega
    · show (yby ar 15).toInt = 0 + 0
      rw [hz]
      rfl
  · rw [if_neg hz] at g5
    have hz1 : (yby ar 15).toInt ≠ 0 := fun e => hz (Int32.toInt_inj.mp e)
    refine ⟨mm, _, h, run, hG, fun _ _ hne => absurd rfl hne, _, List.mem_cons_of_mem _ (List.mem_cons_self ..), yexM (fun j => if j = 12 then (yby ar 15).toInt else ρ0 (j + 1)) ?_ (ya1 ?_ ya0) (ya1 ?_ ya0) ya0 ?_⟩
    · intro j hj
      have hj : j < 12 := hj
      show (if j = 12 then _ else ρ0 (j + 1)) = _
      rw [if_neg (by omega)]
    · show 1 ≤ (yby ar 15).toInt ∧ (yby ar 15).toInt ≤ 255
      omega
    · show 1 + (-1 * ρ0 12 + 0) ≤ 0
      rw [p11]
      omega
    · show (yby ar 15).toInt = 0 + (1 * (yby ar 15).toInt + 0)
      omega
theorem yT28_ok {t s : Nat} (ht : t < 5) {c0 v0 : Nat → Int} {ar : Nat → Int32} : ySum (yGv t s c0 v0 ar) yT28 := by
  intro args h ρ ρ0 hG hM d hd
  obtain ⟨-, ⟨⟨x0, x1, x2⟩, ⟨y0, y1, y2⟩, ⟨z0, z1, z2⟩, ⟨w0, w1, w2⟩, ⟨u0, u1, u2⟩, ⟨k0, k1, k2⟩, m0, m1, m2, m3, m4, m5, -⟩, ⟨-, -, -, -, -, b5, -⟩, ⟨e0, f0, e1, f1, e2, f2, e3, f3, e4, f4, -⟩, ⟨-, -, -, -, -, -, -, -, -, -, -, p11, -⟩, -⟩ := yun hM
  have g0 : (ar 0).toInt = sv ρ (sY 6) := ysm_gu (a := 15) m0
  have g1 : (ar 1).toInt = sv ρ (sY 7) := ysm_gu (a := 16) m1
  have g2 : (ar 2).toInt = sv ρ (sY 8) := ysm_gu (a := 17) m2
  have g3 : (ar 3).toInt = sv ρ (sY 9) := ysm_gu (a := 18) m3
  have g4 : (ar 4).toInt = sv ρ (sY 10) := ysm_gu (a := 19) m4
  have g5 : (if yby ar 16 = 0 then (0 : Int) else 1) = sv ρ (sY 11) := ysm_gu (a := 36) m5
  rw [sY_v] at g0 g1 g2 g3 g4 g5
  have x2 : x0.toInt = ρ 0 := x2
  have y2 : y0.toInt = ρ 1 := y2
  have z2 : z0.toInt = ρ 2 := z2
  have w2 : w0.toInt = ρ 3 := w2
  have u2 : u0.toInt = ρ 4 := u2
  have k2 : k0.toInt = ρ 5 := k2
  have b5 : 16 ≤ ρ 5 ∧ ρ 5 ≤ 16 := b5
  have e0 : 0 + (1 * ρ 0 + (-1 * ρ 6 + 0)) ≤ 0 := e0
  have f0 : 0 + (-1 * ρ 0 + (1 * ρ 6 + 0)) ≤ 0 := f0
  have e1 : 0 + (1 * ρ 1 + (-1 * ρ 7 + 0)) ≤ 0 := e1
  have f1 : 0 + (-1 * ρ 1 + (1 * ρ 7 + 0)) ≤ 0 := f1
  have e2 : 0 + (1 * ρ 2 + (-1 * ρ 8 + 0)) ≤ 0 := e2
  have f2 : 0 + (-1 * ρ 2 + (1 * ρ 8 + 0)) ≤ 0 := f2
  have e3 : 0 + (1 * ρ 3 + (-1 * ρ 9 + 0)) ≤ 0 := e3
  have f3 : 0 + (-1 * ρ 3 + (1 * ρ 9 + 0)) ≤ 0 := f3
  have e4 : 0 + (1 * ρ 4 + (-1 * ρ 10 + 0)) ≤ 0 := e4
  have f4 : 0 + (-1 * ρ 4 + (1 * ρ 10 + 0)) ≤ 0 := f4
  have p11 : ρ0 12 = ρ 11 := p11
  have q0 : x0 = ar 0 := Int32.toInt_inj.mp (by omega)
  have q1 : y0 = ar 1 := Int32.toInt_inj.mp (by omega)
  have q2 : z0 = ar 2 := Int32.toInt_inj.mp (by omega)
  have q3 : w0 = ar 3 := Int32.toInt_inj.mp (by omega)
  have q4 : u0 = ar 4 := Int32.toInt_inj.mp (by omega)
  have q5 : k0 = 16 := Int32.toInt_inj.mp (by rw [k2]; show _ = (16 : Int); omega)
  obtain ⟨r1, rfl, s1⟩ := yarg x1
  rw [s1 1 (by decide)] at y1
  rw [s1 2 (by decide)] at z1
  rw [s1 3 (by decide)] at w1
  rw [s1 4 (by decide)] at u1
  rw [s1 5 (by decide)] at k1
  obtain ⟨r2, rfl, s2⟩ := yarg y1
  rw [s2 2 (by decide)] at z1
  rw [s2 3 (by decide)] at w1
  rw [s2 4 (by decide)] at u1
  rw [s2 5 (by decide)] at k1
  obtain ⟨r3, rfl, s3⟩ := yarg z1
  rw [s3 3 (by decide)] at w1
  rw [s3 4 (by decide)] at u1
  rw [s3 5 (by decide)] at k1
  obtain ⟨r4, rfl, s4⟩ := yarg w1
  rw [s4 4 (by decide)] at u1
  rw [s4 5 (by decide)] at k1
  obtain ⟨r5, rfl, s5⟩ := yarg u1
  rw [s5 5 (by decide)] at k1
  obtain ⟨r6, rfl, s6⟩ := yarg k1
  obtain ⟨mm, run⟩ := ybyte16 x0 y0 z0 w0 u0 r6 d h
  rw [← q5, yby_c (ar' := ar) (by exact q0) (by exact q1) (by exact q2) (by exact q3) (by exact q4)] at run
  have bb := yby_b ar 16
  by_cases hz : yby ar 16 = 0
  · rw [if_pos hz] at g5
    refine ⟨mm, _, h, run, hG, fun _ _ hne => absurd rfl hne, _, List.mem_cons_self .., yexM (fun j => ρ0 (j + 1)) (fun j _ => rfl) ya0 (ya1 ?_ ya0) ya0 ?_⟩
    · show 0 + (1 * ρ0 12 + 0) ≤ 0
      rw [p11]
      omega
    · show (yby ar 16).toInt = 0 + 0
      rw [hz]
      rfl
  · rw [if_neg hz] at g5
    have hz1 : (yby ar 16).toInt ≠ 0 := fun e => hz (Int32.toInt_inj.mp e)
    refine ⟨mm, _, h, run, hG, fun _ _ hne => absurd rfl hne, _, List.mem_cons_of_mem _ (List.mem_cons_self ..), yexM (fun j => if j = 12 then (yby ar 16).toInt else ρ0 (j + 1)) ?_ (ya1 ?_ ya0) (ya1 ?_ ya0) ya0 ?_⟩
    · intro j hj
      have hj : j < 12 := hj
      show (if j = 12 then _ else ρ0 (j + 1)) = _
      rw [if_neg (by omega)]
    · show 1 ≤ (yby ar 16).toInt ∧ (yby ar 16).toInt ≤ 255
      omega
    · show 1 + (-1 * ρ0 12 + 0) ≤ 0
      rw [p11]
      omega
    · show (yby ar 16).toInt = 0 + (1 * (yby ar 16).toInt + 0)
      omega
theorem yT29_ok {t s : Nat} (ht : t < 5) {c0 v0 : Nat → Int} {ar : Nat → Int32} : ySum (yGv t s c0 v0 ar) yT29 := by
  intro args h ρ ρ0 hG hM d hd
  obtain ⟨-, ⟨⟨x0, x1, x2⟩, ⟨y0, y1, y2⟩, ⟨z0, z1, z2⟩, ⟨w0, w1, w2⟩, ⟨u0, u1, u2⟩, ⟨k0, k1, k2⟩, m0, m1, m2, m3, m4, m5, -⟩, ⟨-, -, -, -, -, b5, -⟩, ⟨e0, f0, e1, f1, e2, f2, e3, f3, e4, f4, -⟩, ⟨-, -, -, -, -, -, -, -, -, -, -, p11, -⟩, -⟩ := yun hM
  have g0 : (ar 0).toInt = sv ρ (sY 6) := ysm_gu (a := 15) m0
  have g1 : (ar 1).toInt = sv ρ (sY 7) := ysm_gu (a := 16) m1
  have g2 : (ar 2).toInt = sv ρ (sY 8) := ysm_gu (a := 17) m2
  have g3 : (ar 3).toInt = sv ρ (sY 9) := ysm_gu (a := 18) m3
  have g4 : (ar 4).toInt = sv ρ (sY 10) := ysm_gu (a := 19) m4
  have g5 : (if yby ar 17 = 0 then (0 : Int) else 1) = sv ρ (sY 11) := ysm_gu (a := 37) m5
  rw [sY_v] at g0 g1 g2 g3 g4 g5
  have x2 : x0.toInt = ρ 0 := x2
  have y2 : y0.toInt = ρ 1 := y2
  have z2 : z0.toInt = ρ 2 := z2
  have w2 : w0.toInt = ρ 3 := w2
  have u2 : u0.toInt = ρ 4 := u2
  have k2 : k0.toInt = ρ 5 := k2
  have b5 : 17 ≤ ρ 5 ∧ ρ 5 ≤ 17 := b5
  have e0 : 0 + (1 * ρ 0 + (-1 * ρ 6 + 0)) ≤ 0 := e0
  have f0 : 0 + (-1 * ρ 0 + (1 * ρ 6 + 0)) ≤ 0 := f0
  have e1 : 0 + (1 * ρ 1 + (-1 * ρ 7 + 0)) ≤ 0 := e1
  have f1 : 0 + (-1 * ρ 1 + (1 * ρ 7 + 0)) ≤ 0 := f1
  have e2 : 0 + (1 * ρ 2 + (-1 * ρ 8 + 0)) ≤ 0 := e2
  have f2 : 0 + (-1 * ρ 2 + (1 * ρ 8 + 0)) ≤ 0 := f2
  have e3 : 0 + (1 * ρ 3 + (-1 * ρ 9 + 0)) ≤ 0 := e3
  have f3 : 0 + (-1 * ρ 3 + (1 * ρ 9 + 0)) ≤ 0 := f3
  have e4 : 0 + (1 * ρ 4 + (-1 * ρ 10 + 0)) ≤ 0 := e4
  have f4 : 0 + (-1 * ρ 4 + (1 * ρ 10 + 0)) ≤ 0 := f4
  have p11 : ρ0 12 = ρ 11 := p11
  have q0 : x0 = ar 0 := Int32.toInt_inj.mp (by omega)
  have q1 : y0 = ar 1 := Int32.toInt_inj.mp (by omega)
  have q2 : z0 = ar 2 := Int32.toInt_inj.mp (by omega)
  have q3 : w0 = ar 3 := Int32.toInt_inj.mp (by omega)
  have q4 : u0 = ar 4 := Int32.toInt_inj.mp (by omega)
  have q5 : k0 = 17 := Int32.toInt_inj.mp (by rw [k2]; show _ = (17 : Int); omega)
  obtain ⟨r1, rfl, s1⟩ := yarg x1
  rw [s1 1 (by decide)] at y1
  rw [s1 2 (by decide)] at z1
  rw [s1 3 (by decide)] at w1
  rw [s1 4 (by decide)] at u1
  rw [s1 5 (by decide)] at k1
  obtain ⟨r2, rfl, s2⟩ := yarg y1
  rw [s2 2 (by decide)] at z1
  rw [s2 3 (by decide)] at w1
  rw [s2 4 (by decide)] at u1
  rw [s2 5 (by decide)] at k1
  obtain ⟨r3, rfl, s3⟩ := yarg z1
  rw [s3 3 (by decide)] at w1
  rw [s3 4 (by decide)] at u1
  rw [s3 5 (by decide)] at k1
  obtain ⟨r4, rfl, s4⟩ := yarg w1
  rw [s4 4 (by decide)] at u1
  rw [s4 5 (by decide)] at k1
  obtain ⟨r5, rfl, s5⟩ := yarg u1
  rw [s5 5 (by decide)] at k1
  obtain ⟨r6, rfl, s6⟩ := yarg k1
  obtain ⟨mm, run⟩ := ybyte17 x0 y0 z0 w0 u0 r6 d h
  rw [← q5, yby_c (ar' := ar) (by exact q0) (by exact q1) (by exact q2) (by exact q3) (by exact q4)] at run
  have bb := yby_b ar 17
  by_cases hz : yby ar 17 = 0
  · rw [if_pos hz] at g5
    refine ⟨mm, _, h, run, hG, fun _ _ hne => absurd rfl hne, _, List.mem_cons_self .., yexM (fun j => ρ0 (j + 1)) (fun j _ => rfl) ya0 (ya1 ?_ ya0) ya0 ?_⟩
    · show 0 + (1 * ρ0 12 + 0) ≤ 0
      rw [p11]
      omega
    · show (yby ar 17).toInt = 0 + 0
      rw [hz]
      rfl
  · rw [if_neg hz] at g5
    have hz1 : (yby ar 17).toInt ≠ 0 := fun e => hz (Int32.toInt_inj.mp e)
    refine ⟨mm, _, h, run, hG, fun _ _ hne => absurd rfl hne, _, List.mem_cons_of_mem _ (List.mem_cons_self ..), yexM (fun j => if j = 12 then (yby ar 17).toInt else ρ0 (j + 1)) ?_ (ya1 ?_ ya0) (ya1 ?_ ya0) ya0 ?_⟩
    · intro j hj
      have hj : j < 12 := hj
      show (if j = 12 then _ else ρ0 (j + 1)) = _
      rw [if_neg (by omega)]
    · show 1 ≤ (yby ar 17).toInt ∧ (yby ar 17).toInt ≤ 255
      omega
    · show 1 + (-1 * ρ0 12 + 0) ≤ 0
      rw [p11]
      omega
    · show (yby ar 17).toInt = 0 + (1 * (yby ar 17).toInt + 0)
      omega
theorem yT30_ok {t s : Nat} (ht : t < 5) {c0 v0 : Nat → Int} {ar : Nat → Int32} : ySum (yGv t s c0 v0 ar) yT30 := by
  intro args h ρ ρ0 hG hM d hd
  obtain ⟨-, ⟨⟨x0, x1, x2⟩, ⟨y0, y1, y2⟩, ⟨z0, z1, z2⟩, ⟨w0, w1, w2⟩, ⟨u0, u1, u2⟩, ⟨k0, k1, k2⟩, m0, m1, m2, m3, m4, m5, -⟩, ⟨-, -, -, -, -, b5, -⟩, ⟨e0, f0, e1, f1, e2, f2, e3, f3, e4, f4, -⟩, ⟨-, -, -, -, -, -, -, -, -, -, -, p11, -⟩, -⟩ := yun hM
  have g0 : (ar 0).toInt = sv ρ (sY 6) := ysm_gu (a := 15) m0
  have g1 : (ar 1).toInt = sv ρ (sY 7) := ysm_gu (a := 16) m1
  have g2 : (ar 2).toInt = sv ρ (sY 8) := ysm_gu (a := 17) m2
  have g3 : (ar 3).toInt = sv ρ (sY 9) := ysm_gu (a := 18) m3
  have g4 : (ar 4).toInt = sv ρ (sY 10) := ysm_gu (a := 19) m4
  have g5 : (if yby ar 18 = 0 then (0 : Int) else 1) = sv ρ (sY 11) := ysm_gu (a := 38) m5
  rw [sY_v] at g0 g1 g2 g3 g4 g5
  have x2 : x0.toInt = ρ 0 := x2
  have y2 : y0.toInt = ρ 1 := y2
  have z2 : z0.toInt = ρ 2 := z2
  have w2 : w0.toInt = ρ 3 := w2
  have u2 : u0.toInt = ρ 4 := u2
  have k2 : k0.toInt = ρ 5 := k2
  have b5 : 18 ≤ ρ 5 ∧ ρ 5 ≤ 18 := b5
  have e0 : 0 + (1 * ρ 0 + (-1 * ρ 6 + 0)) ≤ 0 := e0
  have f0 : 0 + (-1 * ρ 0 + (1 * ρ 6 + 0)) ≤ 0 := f0
  have e1 : 0 + (1 * ρ 1 + (-1 * ρ 7 + 0)) ≤ 0 := e1
  have f1 : 0 + (-1 * ρ 1 + (1 * ρ 7 + 0)) ≤ 0 := f1
  have e2 : 0 + (1 * ρ 2 + (-1 * ρ 8 + 0)) ≤ 0 := e2
  have f2 : 0 + (-1 * ρ 2 + (1 * ρ 8 + 0)) ≤ 0 := f2
  have e3 : 0 + (1 * ρ 3 + (-1 * ρ 9 + 0)) ≤ 0 := e3
  have f3 : 0 + (-1 * ρ 3 + (1 * ρ 9 + 0)) ≤ 0 := f3
  have e4 : 0 + (1 * ρ 4 + (-1 * ρ 10 + 0)) ≤ 0 := e4
  have f4 : 0 + (-1 * ρ 4 + (1 * ρ 10 + 0)) ≤ 0 := f4
  have p11 : ρ0 12 = ρ 11 := p11
  have q0 : x0 = ar 0 := Int32.toInt_inj.mp (by omega)
  have q1 : y0 = ar 1 := Int32.toInt_inj.mp (by omega)
  have q2 : z0 = ar 2 := Int32.toInt_inj.mp (by omega)
  have q3 : w0 = ar 3 := Int32.toInt_inj.mp (by omega)
  have q4 : u0 = ar 4 := Int32.toInt_inj.mp (by omega)
  have q5 : k0 = 18 := Int32.toInt_inj.mp (by rw [k2]; show _ = (18 : Int); omega)
  obtain ⟨r1, rfl, s1⟩ := yarg x1
  rw [s1 1 (by decide)] at y1
  rw [s1 2 (by decide)] at z1
  rw [s1 3 (by decide)] at w1
  rw [s1 4 (by decide)] at u1
  rw [s1 5 (by decide)] at k1
  obtain ⟨r2, rfl, s2⟩ := yarg y1
  rw [s2 2 (by decide)] at z1
  rw [s2 3 (by decide)] at w1
  rw [s2 4 (by decide)] at u1
  rw [s2 5 (by decide)] at k1
  obtain ⟨r3, rfl, s3⟩ := yarg z1
  rw [s3 3 (by decide)] at w1
  rw [s3 4 (by decide)] at u1
  rw [s3 5 (by decide)] at k1
  obtain ⟨r4, rfl, s4⟩ := yarg w1
  rw [s4 4 (by decide)] at u1
  rw [s4 5 (by decide)] at k1
  obtain ⟨r5, rfl, s5⟩ := yarg u1
  rw [s5 5 (by decide)] at k1
  obtain ⟨r6, rfl, s6⟩ := yarg k1
  obtain ⟨mm, run⟩ := ybyte18 x0 y0 z0 w0 u0 r6 d h
  rw [← q5, yby_c (ar' := ar) (by exact q0) (by exact q1) (by exact q2) (by exact q3) (by exact q4)] at run
  have bb := yby_b ar 18
  by_cases hz : yby ar 18 = 0
  · rw [if_pos hz] at g5
    refine ⟨mm, _, h, run, hG, fun _ _ hne => absurd rfl hne, _, List.mem_cons_self .., yexM (fun j => ρ0 (j + 1)) (fun j _ => rfl) ya0 (ya1 ?_ ya0) ya0 ?_⟩
    · show 0 + (1 * ρ0 12 + 0) ≤ 0
      rw [p11]
      omega
    · show (yby ar 18).toInt = 0 + 0
      rw [hz]
      rfl
  · rw [if_neg hz] at g5
    have hz1 : (yby ar 18).toInt ≠ 0 := fun e => hz (Int32.toInt_inj.mp e)
    refine ⟨mm, _, h, run, hG, fun _ _ hne => absurd rfl hne, _, List.mem_cons_of_mem _ (List.mem_cons_self ..), yexM (fun j => if j = 12 then (yby ar 18).toInt else ρ0 (j + 1)) ?_ (ya1 ?_ ya0) (ya1 ?_ ya0) ya0 ?_⟩
    · intro j hj
      have hj : j < 12 := hj
      show (if j = 12 then _ else ρ0 (j + 1)) = _
      rw [if_neg (by omega)]
    · show 1 ≤ (yby ar 18).toInt ∧ (yby ar 18).toInt ≤ 255
      omega
    · show 1 + (-1 * ρ0 12 + 0) ≤ 0
      rw [p11]
      omega
    · show (yby ar 18).toInt = 0 + (1 * (yby ar 18).toInt + 0)
      omega
theorem yT31_ok {t s : Nat} (ht : t < 5) {c0 v0 : Nat → Int} {ar : Nat → Int32} : ySum (yGv t s c0 v0 ar) yT31 := by
  intro args h ρ ρ0 hG hM d hd
  obtain ⟨-, ⟨⟨x0, x1, x2⟩, ⟨y0, y1, y2⟩, ⟨z0, z1, z2⟩, ⟨w0, w1, w2⟩, ⟨u0, u1, u2⟩, ⟨k0, k1, k2⟩, m0, m1, m2, m3, m4, m5, -⟩, ⟨-, -, -, -, -, b5, -⟩, ⟨e0, f0, e1, f1, e2, f2, e3, f3, e4, f4, -⟩, ⟨-, -, -, -, -, -, -, -, -, -, -, p11, -⟩, -⟩ := yun hM
  have g0 : (ar 0).toInt = sv ρ (sY 6) := ysm_gu (a := 15) m0
  have g1 : (ar 1).toInt = sv ρ (sY 7) := ysm_gu (a := 16) m1
  have g2 : (ar 2).toInt = sv ρ (sY 8) := ysm_gu (a := 17) m2
  have g3 : (ar 3).toInt = sv ρ (sY 9) := ysm_gu (a := 18) m3
  have g4 : (ar 4).toInt = sv ρ (sY 10) := ysm_gu (a := 19) m4
  have g5 : (if yby ar 19 = 0 then (0 : Int) else 1) = sv ρ (sY 11) := ysm_gu (a := 39) m5
  rw [sY_v] at g0 g1 g2 g3 g4 g5
  have x2 : x0.toInt = ρ 0 := x2
  have y2 : y0.toInt = ρ 1 := y2
  have z2 : z0.toInt = ρ 2 := z2
  have w2 : w0.toInt = ρ 3 := w2
  have u2 : u0.toInt = ρ 4 := u2
  have k2 : k0.toInt = ρ 5 := k2
  have b5 : 19 ≤ ρ 5 ∧ ρ 5 ≤ 19 := b5
  have e0 : 0 + (1 * ρ 0 + (-1 * ρ 6 + 0)) ≤ 0 := e0
  have f0 : 0 + (-1 * ρ 0 + (1 * ρ 6 + 0)) ≤ 0 := f0
  have e1 : 0 + (1 * ρ 1 + (-1 * ρ 7 + 0)) ≤ 0 := e1
  have f1 : 0 + (-1 * ρ 1 + (1 * ρ 7 + 0)) ≤ 0 := f1
  have e2 : 0 + (1 * ρ 2 + (-1 * ρ 8 + 0)) ≤ 0 := e2
  have f2 : 0 + (-1 * ρ 2 + (1 * ρ 8 + 0)) ≤ 0 := f2
  have e3 : 0 + (1 * ρ 3 + (-1 * ρ 9 + 0)) ≤ 0 := e3
  have f3 : 0 + (-1 * ρ 3 + (1 * ρ 9 + 0)) ≤ 0 := f3
  have e4 : 0 + (1 * ρ 4 + (-1 * ρ 10 + 0)) ≤ 0 := e4
  have f4 : 0 + (-1 * ρ 4 + (1 * ρ 10 + 0)) ≤ 0 := f4
  have p11 : ρ0 12 = ρ 11 := p11
  have q0 : x0 = ar 0 := Int32.toInt_inj.mp (by omega)
  have q1 : y0 = ar 1 := Int32.toInt_inj.mp (by omega)
  have q2 : z0 = ar 2 := Int32.toInt_inj.mp (by omega)
  have q3 : w0 = ar 3 := Int32.toInt_inj.mp (by omega)
  have q4 : u0 = ar 4 := Int32.toInt_inj.mp (by omega)
  have q5 : k0 = 19 := Int32.toInt_inj.mp (by rw [k2]; show _ = (19 : Int); omega)
  obtain ⟨r1, rfl, s1⟩ := yarg x1
  rw [s1 1 (by decide)] at y1
  rw [s1 2 (by decide)] at z1
  rw [s1 3 (by decide)] at w1
  rw [s1 4 (by decide)] at u1
  rw [s1 5 (by decide)] at k1
  obtain ⟨r2, rfl, s2⟩ := yarg y1
  rw [s2 2 (by decide)] at z1
  rw [s2 3 (by decide)] at w1
  rw [s2 4 (by decide)] at u1
  rw [s2 5 (by decide)] at k1
  obtain ⟨r3, rfl, s3⟩ := yarg z1
  rw [s3 3 (by decide)] at w1
  rw [s3 4 (by decide)] at u1
  rw [s3 5 (by decide)] at k1
  obtain ⟨r4, rfl, s4⟩ := yarg w1
  rw [s4 4 (by decide)] at u1
  rw [s4 5 (by decide)] at k1
  obtain ⟨r5, rfl, s5⟩ := yarg u1
  rw [s5 5 (by decide)] at k1
  obtain ⟨r6, rfl, s6⟩ := yarg k1
  obtain ⟨mm, run⟩ := ybyte19 x0 y0 z0 w0 u0 r6 d h
  rw [← q5, yby_c (ar' := ar) (by exact q0) (by exact q1) (by exact q2) (by exact q3) (by exact q4)] at run
  have bb := yby_b ar 19
  by_cases hz : yby ar 19 = 0
  · rw [if_pos hz] at g5
    refine ⟨mm, _, h, run, hG, fun _ _ hne => absurd rfl hne, _, List.mem_cons_self .., yexM (fun j => ρ0 (j + 1)) (fun j _ => rfl) ya0 (ya1 ?_ ya0) ya0 ?_⟩
    · show 0 + (1 * ρ0 12 + 0) ≤ 0
      rw [p11]
      omega
    · show (yby ar 19).toInt = 0 + 0
      rw [hz]
      rfl
  · rw [if_neg hz] at g5
    have hz1 : (yby ar 19).toInt ≠ 0 := fun e => hz (Int32.toInt_inj.mp e)
    refine ⟨mm, _, h, run, hG, fun _ _ hne => absurd rfl hne, _, List.mem_cons_of_mem _ (List.mem_cons_self ..), yexM (fun j => if j = 12 then (yby ar 19).toInt else ρ0 (j + 1)) ?_ (ya1 ?_ ya0) (ya1 ?_ ya0) ya0 ?_⟩
    · intro j hj
      have hj : j < 12 := hj
      show (if j = 12 then _ else ρ0 (j + 1)) = _
      rw [if_neg (by omega)]
    · show 1 ≤ (yby ar 19).toInt ∧ (yby ar 19).toInt ≤ 255
      omega
    · show 1 + (-1 * ρ0 12 + 0) ≤ 0
      rw [p11]
      omega
    · show (yby ar 19).toInt = 0 + (1 * (yby ar 19).toInt + 0)
      omega
/-! sumOf from 6, by hand -/
theorem yst_2 {mid pc : Nat} {loc : zL} {stk : List zV} {h : zH} {i : Instr} {q : zN} (e1 : zf1 i pc loc stk h = none) (e : zf2 yTab (yFld mid) i pc loc stk h = some q) : zst yTab yFld yKI yKL yGst yLdS yFldS yAcp mid i pc loc stk h = some q := by
  unfold zst
  rw [e1]
  show (match zf2 yTab (yFld mid) i pc loc stk h with | some q => some q | none => _) = some q
  rw [e]
section YSM
variable {n d : Nat} {loc : zL} {stk : List zV} {h : zH}
theorem ygf {mid pc idx k fi t b : Nat} (hi : yPI mid pc = some (.getfield idx)) (hf : zfo yTab (yFld mid) k idx = some (fi, t, b)) : yz (n + 1) d mid pc loc (.inr (.inr k) :: stk) h = yz n d mid (pc + 3) loc (zfa h k fi t :: stk) h :=
  ystp (q := (pc + 3, loc, zfa h k fi t :: stk, h)) hi rfl rfl (yst_2 rfl (by
    show zoF (zfo yTab (yFld mid) k idx) (fun fi t _ => some (pc + 3, loc, zfa h k fi t :: stk, h)) = _
    rw [hf]
    rfl))
theorem yal {mid pc : Nat} {k : Fin 4} {x : Nat} (hi : yPI mid pc = some (.aload_n k)) (hk : zget loc k.val = some (.inr (.inr x))) : yz (n + 1) d mid pc loc stk h = yz n d mid (pc + 1) loc (.inr (.inr x) :: stk) h :=
  ystp (q := (pc + 1, loc, .inr (.inr x) :: stk, h)) hi rfl rfl (yst_1 (by show zog loc k.val _ = _; unfold zog; rw [hk]; rfl))
theorem yia {mid pc k m : Nat} {q : List Nat} {x : Int32} (hi : yPI mid pc = some .iaload) (hz : zar yTab k 0 = some (m, q)) (hx : zin x m = true) : yz (n + 1) d mid pc loc (.inl x :: .inr (.inr k) :: stk) h = yz n d mid (pc + 1) loc (.inl (h.1 k x.toNatClampNeg) :: stk) h :=
  ystp (q := (pc + 1, loc, .inl (h.1 k x.toNatClampNeg) :: stk, h)) hi rfl rfl (yst_2 rfl (by
    show zoA (zar yTab k 0) (fun n _ => zgd (zin x n) (some (pc + 1, loc, .inl (h.1 k x.toNatClampNeg) :: stk, h))) = _
    rw [hz]
    show zgd (zin x m) (some (pc + 1, loc, .inl (h.1 k x.toNatClampNeg) :: stk, h)) = _
    unfold zgd
    rw [if_pos hx]))
theorem yinc {mid pc k : Nat} {c : Int} {x : Int32} (hi : yPI mid pc = some (.iinc k c)) (hk : zget loc k = some (.inl x)) : yz (n + 1) d mid pc loc stk h = yz n d mid (pc + 3) (zput1 loc k (.inl (x + Int32.ofInt c))) stk h :=
  ystp (q := (pc + 3, zput1 loc k (.inl (x + Int32.ofInt c)), stk, h)) hi rfl rfl (yst_1 (by
    show (match zget loc k with | some (.inl x) => some (pc + 3, zput1 loc k (.inl (x + Int32.ofInt c)), stk, h) | _ => none) = _
    rw [hk]))
end YSM
/-- the locals of the loop -/
def ysl (loc : zL) (s k : Int32) : Prop := zget loc 0 = some (.inr (.inr 440)) ∧ zget loc 1 = some (.inl (Int32.ofInt 6)) ∧ zget loc 2 = some (.inl s) ∧ zget loc 3 = some (.inl k)
theorem ysl_n {loc : zL} {s k s' : Int32} (hl : ysl loc s k) : ysl (zput1 (zput1 loc 2 (.inl s')) 3 (.inl (k + Int32.ofInt 1))) s' (k + Int32.ofInt 1) := by
  obtain ⟨l0, l1, l2, l3⟩ := hl
  have nc : ∀ {x : Int32}, ¬ zcat (.inl x) = 2 := fun {x} => by show ¬ (1 = 2); decide
  have nr : ¬ zcat (.inr (.inr 440)) = 2 := by show ¬ (1 = 2); decide
  have p0 := zget_put1o (v := .inl s') l0 (k := 2) (by decide) (fun e => nr e.2)
  have p1 := zget_put1o (v := .inl s') l1 (k := 2) (by decide) (fun e => nc e.2)
  have p2 : zget (zput1 loc 2 (.inl s')) 2 = some (.inl s') := zget_put1
  exact ⟨zget_put1o p0 (by decide) (fun e => nr e.2), zget_put1o p1 (by decide) (fun e => nc e.2), zget_put1o p2 (by decide) (fun e => nc e.2), zget_put1⟩
theorem ysumL {h : zH} (hG : sG yReg yG h) {dd m : Nat} (hm : m ≤ 6) (e : yv h 440 22 = m) : ∀ (j k : Nat) (loc : zL) (s kk : Int32), j + k = m → kk.toInt = k → s = ysm h k → ysl loc s kk → ∃ n, yz n dd 189 4 loc [] h = some (some (.inl (ysm h m)), h)
  | 0, k, loc, s, kk, hj, hk, hs, hl => by
    obtain ⟨l0, l1, l2, l3⟩ := hl
    have hge : h.1 440 22 ≤ kk := by
      rw [Int32.le_iff_toInt_le, hk]
      have : (h.1 440 22).toInt = m := e
      omega
    refine ⟨6, ?_⟩
    refine (ybin (k := 3) (by decide +kernel) l3).trans ?_
    refine (yal (k := 0) (by decide +kernel) l0).trans ?_
    refine (ygf (idx := 270) (fi := 22) (t := 0) (b := 0) (by decide +kernel) (by decide +kernel)).trans ?_
    refine (ybge (off := 20) (by decide +kernel) (by decide) hge).trans ?_
    refine (ybin (k := 2) (by decide +kernel) l2).trans ?_
    refine (yend (i := .ireturn) (by decide +kernel) rfl rfl).trans ?_
    have : k = m := by omega
    rw [hs, this]
  | j + 1, k, loc, s, kk, hj, hk, hs, hl => by
    obtain ⟨l0, l1, l2, l3⟩ := hl
    have hlt : ¬ h.1 440 22 ≤ kk := by
      rw [Int32.le_iff_toInt_le, hk]
      have : (h.1 440 22).toInt = m := e
      omega
    have hx : (Int32.ofInt 6 + kk).toInt = 6 + k := by
      rw [sadd32 _ _ (by rw [hk]; show -2147483648 ≤ 6 + (k : Int); omega) (by rw [hk]; show 6 + (k : Int) ≤ 2147483647; omega), hk]
      rfl
    have hin : zin (Int32.ofInt 6 + kk) 220 = true := decide_eq_true (by rw [hx]; omega)
    have hcl : (Int32.ofInt 6 + kk).toNatClampNeg = 6 + k := by
      show (Int32.ofInt 6 + kk).toInt.toNat = 6 + k
      rw [hx]
      omega
    have hk1 : (kk + Int32.ofInt 1).toInt = ((k + 1 : Nat) : Int) := by
      rw [sadd32 _ _ (by rw [hk]; show -2147483648 ≤ (k : Int) + 1; omega) (by rw [hk]; show (k : Int) + 1 ≤ 2147483647; omega), hk]
      rfl
    obtain ⟨n, hn⟩ := ysumL hG (dd := dd) hm e j (k + 1) _ (s + h.1 421 (6 + k)) (kk + Int32.ofInt 1) (by omega) hk1 (by rw [hs]; rfl) (ysl_n (loc := loc) (s := s) (k := kk) ⟨l0, l1, l2, l3⟩)
    refine ⟨n + 15, ?_⟩
    refine (ybin (k := 3) (by decide +kernel) l3).trans ?_
    refine (yal (k := 0) (by decide +kernel) l0).trans ?_
    refine (ygf (idx := 270) (fi := 22) (t := 0) (b := 0) (by decide +kernel) (by decide +kernel)).trans ?_
    refine (ybgn (off := 20) (by decide +kernel) (by decide) hlt).trans ?_
    refine (ybin (k := 2) (by decide +kernel) l2).trans ?_
    refine (yal (k := 0) (by decide +kernel) l0).trans ?_
    refine (ygf (idx := 52) (fi := 25) (t := 423) (b := 3) (by decide +kernel) (by decide +kernel)).trans ?_
    refine (ybin (k := 1) (by decide +kernel) l1).trans ?_
    refine (ybin (k := 3) (by decide +kernel) l3).trans ?_
    refine (ystp (i := .iadd) (by decide +kernel) rfl rfl (yst_1 rfl)).trans ?_
    refine (yia (m := 220) (q := []) (by decide +kernel) (by decide +kernel) hin).trans ?_
    refine (ystp (i := .iadd) (by decide +kernel) rfl rfl (yst_1 rfl)).trans ?_
    rw [hcl]
    refine (ystp (i := .istore_n 2) (by decide +kernel) rfl rfl (yst_1 rfl)).trans ?_
    refine (yinc (k := 3) (c := 1) (x := kk) (by decide +kernel) ?_).trans ?_
    · exact zget_put1o l3 (by decide) (fun e => absurd e.2 (by show ¬ (1 = 2); decide))
    refine (ybgo (off := -22) (by decide +kernel) (by decide)).trans ?_
    exact hn
theorem yT32_ok {t s : Nat} (ht : t < 5) {c0 v0 : Nat → Int} {ar : Nat → Int32} : ySum (yGv t s c0 v0 ar) yT32 := by
  intro args h ρ ρ0 hG hM d hd
  obtain ⟨⟨⟨k, k1, k2⟩, -⟩, ⟨⟨c, c1, c2⟩, m1, m2, -⟩, ⟨b0, b1, -⟩, -, ⟨-, -, p2, -⟩, -⟩ := yun hM
  have hk := yref k2
  subst hk
  have c2 : c.toInt = ρ 0 := c2
  have b0 : 6 ≤ ρ 0 ∧ ρ 0 ≤ 6 := b0
  have b1 : 0 ≤ ρ 1 ∧ ρ 1 ≤ 6 := b1
  have p2 : ρ0 3 = ρ 2 := p2
  have hc : c = Int32.ofInt 6 := Int32.toInt_inj.mp (by rw [c2]; show ρ 0 = 6; omega)
  subst hc
  have mn := ysm_u (k := 440) (by decide) (by decide +kernel) m1 22 rfl
  rw [sY_v] at mn
  have mn : yv h 440 22 = ρ 1 := mn
  obtain ⟨m, hm⟩ : ∃ x : Nat, ρ 1 = x := ⟨(ρ 1).toNat, by omega⟩
  have g : yGv t s c0 v0 ar 40 h = ρ 2 := by
    have := ysm_gu (a := 40) m2
    rw [sY_v] at this
    exact this
  have g : (ysm h (min 6 (yv h 440 22).toNat)).toInt = ρ 2 := g
  rw [mn, hm, show min 6 ((m : Int).toNat) = m by omega] at g
  have nr : ¬ zcat (.inr (.inr 440)) = 2 := by show ¬ (1 = 2); decide
  have nc : ∀ {x : Int32}, ¬ zcat (.inl x) = 2 := fun {x} => by show ¬ (1 = 2); decide
  have q0 := zget_put1o (v := .inl (Int32.ofInt 0)) k1 (k := 2) (by decide) (fun e => nr e.2)
  have q1 := zget_put1o (v := .inl (Int32.ofInt 0)) c1 (k := 2) (by decide) (fun e => nc e.2)
  have q2 : zget (zput1 (zent 0 args) 2 (.inl (Int32.ofInt 0))) 2 = some (.inl (Int32.ofInt 0)) := zget_put1
  obtain ⟨n, hn⟩ := ysumL hG (dd := d) (m := m) (by omega) (mn.trans hm) m 0 (zput1 (zput1 (zent 0 args) 2 (.inl (Int32.ofInt 0))) 3 (.inl (Int32.ofInt 0))) (Int32.ofInt 0) (Int32.ofInt 0) (by omega) (by decide) rfl ⟨zget_put1o q0 (by decide) (fun e => nr e.2), zget_put1o q1 (by decide) (fun e => nc e.2), zget_put1o q2 (by decide) (fun e => nc e.2), zget_put1⟩
  refine ⟨n + 4, some (.inl (ysm h m)), h, ?_, hG, fun _ _ hne => absurd rfl hne, _, List.mem_cons_self .., yexM (fun j => ρ0 (j + 1)) (fun j _ => rfl) ya0 ya0 ya0 ?_⟩
  · refine (ystp (n := n + 3) (i := .iconst 0) (by decide +kernel) rfl rfl (yst_1 rfl)).trans ?_
    refine (ystp (i := .istore_n 2) (by decide +kernel) rfl rfl (yst_1 rfl)).trans ?_
    refine (ystp (i := .iconst 0) (by decide +kernel) rfl rfl (yst_1 rfl)).trans ?_
    refine (ystp (i := .istore_n 3) (by decide +kernel) rfl rfl (yst_1 rfl)).trans ?_
    exact hn
  · show (ysm h m).toInt = 0 + (1 * ρ0 3 + 0)
    rw [g, p2]
    omega
/-! clause: its ways up to the cut at 247, and from there (A: plain; B: a place q below; C: a row below) -/
def yQ_clA : sQ := (111, ([(0, 120)], [(2, 120, (3, [])), (2, 120, (2, [])), (2, 120, (4, [])), (2, 120, (5, [])), (2, 120, (14, [])), (2, 90, (0, [(4, 1)])), (2, 91, (0, [(4, 1)])), (2, 1000, (0, [])), (2, 1001, (0, [])), (2, 1008, (0, []))], [(0, 240), (0, 240), ((-1), (-1)), (0, 0), (0, 4), (0, 480), (0, 120), (0, 0), (1, 1), (1, 1)], [(0, [(0, 1), (1, (-1))]), (0, [(0, (-2)), (5, 1)]), (0, [(0, (-1)), (6, 2)])], [(0, 0), (1, 1), (2, 2), (3, 3), (4, 4), (5, 5), (6, 6), (7, 7), (8, 8), (9, 9)], (10, [])), [(none, [(120, (3, []), (0, [(10, 1)])), (120, (4, []), (0, [(11, 1)])), (120, (5, []), (0, [(3, 1)])), (90, (0, [(4, 1)]), (0, [(5, 1)])), (91, (0, [(4, 1)]), (0, [(6, 1)])), (1008, (0, []), (0, [(9, 1)]))], [(2, 242), (0, 240)], [(0, [(0, 1), (10, (-1))]), (0, [(5, 1), (10, (-2))]), ((-1), [(5, 1), (10, (-2))]), (0, [(6, 2), (10, (-1))]), ((-2), [(6, 2), (10, (-1))])], [0, 1]), (none, [(120, (3, []), (0, [(10, 1)])), (120, (4, []), (0, [(2, 1)])), (120, (5, []), (0, [(3, 1)])), (90, (0, [(4, 1)]), (0, [(11, 1)])), (91, (0, [(4, 1)]), (1, [(6, 1)])), (1000, (0, []), (0, [(12, 1)])), (1001, (0, []), (0, [(13, 1)])), (1008, (0, []), (0, [(14, 1)])), (92, (0, [(4, 140), (6, 1)]), (0, [(5, 1)])), (93, (0, [(4, 140), (6, 1)]), (0, [(5, 1)])), (94, (0, [(4, 140), (6, 1)]), (0, [(11, 1)]))], [(2, 240), (1, 481), (1, 1), (1, 1), (1, 1)], [((-239), [(0, 1)]), (2, [(1, (-1))]), (0, [(0, 1), (10, (-1))]), (0, [(1, (-1)), (10, 1)]), ((-1), [(10, (-2)), (11, 1)]), (2, [(6, 2), (10, (-1))]), (0, [(6, 2), (10, (-1))])], [0, 3, 5, 6, 7]), (none, [(120, (3, []), (0, [(10, 1)])), (120, (4, []), (0, [(11, 1)])), (120, (5, []), (0, [(12, 1)])), (90, (0, [(4, 1)]), (0, [(13, 1)])), (91, (0, [(4, 1)]), (1, [(6, 1)])), (1008, (0, []), (0, [(14, 1)])), (92, (0, [(4, 140), (6, 1)]), (0, [(5, 1)])), (93, (0, [(4, 140), (6, 1)]), (0, [(5, 1)])), (94, (0, [(4, 140), (6, 1)]), (0, [(13, 1)]))], [(2, 246), (2, 240), (0, 1), (0, 493), (1, 1)], [((-239), [(0, 1)]), (2, [(1, (-1))]), (0, [(0, 1), (10, (-1))]), ((-1), [(10, (-2)), (13, 1)]), (2, [(6, 2), (10, (-1))]), (0, [(6, 2), (10, (-1))])], [0, 1, 2, 3, 5]), (none, [(120, (3, []), (0, [(10, 1)])), (120, (4, []), (0, [(11, 1)])), (120, (5, []), (0, [(3, 1)])), (90, (0, [(4, 1)]), (0, [(12, 1)])), (91, (0, [(4, 1)]), (0, [(6, 1)])), (1008, (0, []), (0, [(13, 1)])), (92, (0, [(4, 140), (6, 1)]), (0, [(5, 1)])), (93, (0, [(4, 140), (6, 1)]), (0, [(5, 1)]))], [(3, 240), (3, 240), (2, 481), (1, 1)], [((-239), [(0, 1)]), (3, [(1, (-1))]), (0, [(0, 1), (10, (-1))]), (0, [(1, (-1)), (10, 1)]), ((-1), [(10, (-2)), (12, 1)]), (0, [(6, 2), (10, (-1))]), ((-2), [(6, 2), (10, (-1))])], [0, 1, 3, 5]), (none, [(120, (3, []), (0, [(10, 1)])), (120, (4, []), (0, [(11, 1)])), (120, (5, []), (0, [(12, 1)])), (90, (0, [(4, 1)]), (0, [(13, 1)])), (91, (0, [(4, 1)]), (1, [(6, 1)])), (1008, (0, []), (0, [(14, 1)])), (92, (0, [(4, 140), (6, 1)]), (0, [(5, 1)])), (93, (0, [(4, 140), (6, 1)]), (0, [(15, 1)])), (94, (0, [(4, 140), (6, 1)]), (0, [(16, 1)]))], [(2, 246), (2, 240), (0, 1), (0, 493), (1, 1), (0, 480), (0, 493)], [((-239), [(0, 1)]), (3, [(1, (-1))]), (0, [(0, 1), (10, (-1))]), ((-1), [(10, (-2)), (13, 1)]), (2, [(6, 2), (10, (-1))]), (0, [(6, 2), (10, (-1))])], [0, 1, 2, 3, 5, 7, 8]), (none, [(120, (3, []), (0, [(10, 1)])), (120, (4, []), (0, [(2, 1)])), (120, (5, []), (0, [(3, 1)])), (90, (0, [(4, 1)]), (0, [(11, 1)])), (91, (0, [(4, 1)]), (1, [(6, 1)])), (1000, (0, []), (0, [(12, 1)])), (1001, (0, []), (0, [(13, 1)])), (1008, (0, []), (0, [(14, 1)])), (92, (0, [(4, 140), (6, 1)]), (0, [(5, 1)])), (93, (0, [(4, 140), (6, 1)]), (0, [(15, 1)])), (94, (0, [(4, 140), (6, 1)]), (0, [(11, 1)]))], [(4, 240), (1, 481), (1, 1), (1, 1), (1, 1), (2, 479)], [((-239), [(0, 1)]), (4, [(1, (-1))]), (0, [(1, (-1)), (10, 1)]), (0, [(0, 1), (10, (-1))]), ((-1), [(10, (-2)), (11, 1)]), (2, [(6, 2), (10, (-1))]), (0, [(6, 2), (10, (-1))])], [0, 3, 5, 6, 7, 9])], [(120, 3, 5), (91, 0, 4), (88, 0, 2599), (90, 0, 4), (93, 0, 680), (94, 0, 680), (92, 0, 680), (89, 0, 2599)], 34)
def yL_clA : List (Nat × List sAp) := [(129, [(([(0, 120)], [(0, 1, (0, [])), (0, 2, (0, [])), (2, 120, (3, [])), (2, 120, (2, [])), (2, 120, (4, [])), (2, 120, (5, [])), (2, 120, (14, [])), (2, 90, (0, [(6, 1)])), (2, 91, (0, [(6, 1)])), (2, 1000, (0, [])), (2, 1001, (0, [])), (2, 1008, (0, [])), (2, 92, (0, [(6, 140), (8, 1)])), (3, 0, (0, []))], [(0, 680), (0, 0), (2, 240), (2, 240), ((-1), (-1)), (0, 0), (0, 4), (0, 478), (0, 120), (0, 0), (1, 1), (1, 1), (0, 478), (0, 238)], [(0, [(2, (-1)), (13, 1)]), (0, [(2, 1), (3, (-1))]), (0, [(2, (-2)), (7, 1)]), ((-1), [(2, (-2)), (7, 1)]), (2, [(2, (-1)), (8, 2)]), (0, [(0, 1), (6, (-140)), (8, (-1))]), (0, [(0, (-1)), (6, 140), (8, 1)])], [(1, 3), (2, 4), (3, 5), (4, 6), (5, 7), (6, 8), (7, 9), (8, 10), (9, 11), (5, 12), (0, 13)], (8, [])), []), (([(0, 120)], [(0, 1, (0, [])), (0, 2, (0, [])), (2, 120, (3, [])), (2, 120, (2, [])), (2, 120, (4, [])), (2, 120, (5, [])), (2, 120, (14, [])), (2, 90, (0, [(6, 1)])), (2, 91, (0, [(6, 1)])), (2, 1000, (0, [])), (2, 1001, (0, [])), (2, 1008, (0, [])), (2, 92, (0, [(6, 140), (8, 1)])), (3, 0, (0, []))], [(0, 680), (1, 1), (2, 239), (3, 240), ((-1), (-1)), (0, 0), (0, 4), (0, 478), (0, 120), (0, 0), (1, 1), (1, 1), (0, 478), (0, 238)], [(0, [(2, (-1)), (13, 1)]), (0, [(2, 1), (3, (-1))]), (0, [(2, (-2)), (7, 1)]), ((-1), [(2, (-2)), (7, 1)]), (2, [(2, (-1)), (8, 2)]), (0, [(0, 1), (6, (-140)), (8, (-1))]), (0, [(0, (-1)), (6, 140), (8, 1)])], [(1, 3), (2, 4), (3, 5), (4, 6), (5, 7), (6, 8), (7, 9), (8, 10), (9, 11), (5, 12), (0, 13)], (9, [])), [])]), (168, [(([(0, 120)], [(0, 1, (0, [])), (0, 2, (0, [])), (2, 120, (3, [])), (2, 120, (2, [])), (2, 120, (4, [])), (2, 120, (5, [])), (2, 120, (14, [])), (2, 90, (0, [(6, 1)])), (2, 91, (0, [(6, 1)])), (2, 1000, (0, [])), (2, 1001, (0, [])), (2, 1008, (0, [])), (2, 92, (0, [(6, 140), (8, 1)])), (3, 0, (0, []))], [(0, 680), (0, 0), (2, 240), (2, 240), ((-1), (-1)), (0, 0), (0, 4), (1, 481), (0, 120), (1, 1), (1, 1), (1, 1), (0, 478), (0, 238)], [(0, [(2, (-1)), (13, 1)]), (0, [(2, 1), (3, (-1))]), ((-1), [(2, (-2)), (7, 1)]), (2, [(2, (-1)), (8, 2)]), (0, [(0, 1), (6, (-140)), (8, (-1))]), (0, [(0, (-1)), (6, 140), (8, 1)])], [(1, 3), (2, 4), (3, 5), (4, 6), (6, 8), (5, 12), (0, 13)], (1, [])), []), (([(0, 120)], [(0, 1, (0, [])), (0, 2, (0, [])), (2, 120, (3, [])), (2, 120, (2, [])), (2, 120, (4, [])), (2, 120, (5, [])), (2, 120, (14, [])), (2, 90, (0, [(6, 1)])), (2, 91, (0, [(6, 1)])), (2, 1008, (0, [])), (2, 92, (0, [(6, 140), (8, 1)])), (3, 0, (0, []))], [(0, 680), (0, 0), (2, 246), (2, 240), (2, 240), (0, 1), (0, 4), (0, 493), (0, 120), (1, 1), (0, 478), (0, 238)], [(0, [(2, (-1)), (11, 1)]), ((-1), [(2, (-2)), (7, 1)]), (2, [(2, (-1)), (8, 2)]), (0, [(0, 1), (6, (-140)), (8, (-1))]), (0, [(0, (-1)), (6, 140), (8, 1)])], [(1, 3), (4, 6), (6, 8), (5, 10), (0, 11)], (7, [])), []), (([(0, 120)], [(0, 1, (0, [])), (0, 2, (0, [])), (2, 120, (3, [])), (2, 120, (2, [])), (2, 120, (4, [])), (2, 120, (5, [])), (2, 120, (14, [])), (2, 90, (0, [(6, 1)])), (2, 91, (0, [(6, 1)])), (2, 1000, (0, [])), (2, 1001, (0, [])), (2, 1008, (0, [])), (2, 92, (0, [(6, 140), (8, 1)])), (3, 0, (0, []))], [(0, 680), (1, 1), (2, 239), (3, 240), ((-1), (-1)), (0, 0), (0, 4), (1, 481), (0, 120), (1, 1), (1, 1), (1, 1), (0, 478), (0, 238)], [(0, [(2, (-1)), (13, 1)]), (0, [(2, 1), (3, (-1))]), ((-1), [(2, (-2)), (7, 1)]), (2, [(2, (-1)), (8, 2)]), (0, [(0, 1), (6, (-140)), (8, (-1))]), (0, [(0, (-1)), (6, 140), (8, 1)])], [(1, 3), (2, 4), (3, 5), (4, 6), (6, 8), (5, 12), (0, 13)], (5, [])), [])]), (184, [(([(0, 120)], [(0, 1, (0, [])), (0, 2, (0, [])), (2, 120, (3, [])), (2, 120, (2, [])), (2, 120, (4, [])), (2, 120, (5, [])), (2, 120, (14, [])), (2, 90, (0, [(6, 1)])), (2, 91, (0, [(6, 1)])), (2, 1000, (0, [])), (2, 1001, (0, [])), (2, 1008, (0, [])), (2, 92, (0, [(6, 140), (8, 1)])), (3, 0, (0, []))], [(0, 680), (0, 0), (2, 240), (2, 240), ((-1), (-1)), (0, 0), (0, 4), (1, 481), (0, 120), (1, 1), (1, 1), (1, 1), (0, 480), (0, 239)], [(0, [(2, (-1)), (13, 1)]), (0, [(2, 1), (3, (-1))]), ((-1), [(2, (-2)), (7, 1)]), (2, [(2, (-1)), (8, 2)]), (0, [(0, 1), (6, (-140)), (8, (-1))]), (0, [(0, (-1)), (6, 140), (8, 1)])], [(1, 3), (2, 4), (3, 5), (4, 6), (6, 8), (5, 12), (0, 13)], (0, [])), []), (([(0, 120)], [(0, 1, (0, [])), (0, 2, (0, [])), (2, 120, (3, [])), (2, 120, (2, [])), (2, 120, (4, [])), (2, 120, (5, [])), (2, 120, (14, [])), (2, 90, (0, [(6, 1)])), (2, 91, (0, [(6, 1)])), (2, 1008, (0, [])), (2, 92, (0, [(6, 140), (8, 1)])), (3, 0, (0, []))], [(0, 680), (0, 0), (2, 246), (2, 240), (2, 240), (0, 1), (0, 4), (0, 493), (0, 120), (1, 1), (0, 480), (0, 239)], [(0, [(2, (-1)), (11, 1)]), ((-1), [(2, (-2)), (7, 1)]), (2, [(2, (-1)), (8, 2)]), (0, [(0, 1), (6, (-140)), (8, (-1))]), (0, [(0, (-1)), (6, 140), (8, 1)])], [(1, 3), (4, 6), (6, 8), (5, 10), (0, 11)], (6, [])), []), (([(0, 120)], [(0, 1, (0, [])), (0, 2, (0, [])), (2, 120, (3, [])), (2, 120, (2, [])), (2, 120, (4, [])), (2, 120, (5, [])), (2, 120, (14, [])), (2, 90, (0, [(6, 1)])), (2, 91, (0, [(6, 1)])), (2, 1000, (0, [])), (2, 1001, (0, [])), (2, 1008, (0, [])), (2, 92, (0, [(6, 140), (8, 1)])), (3, 0, (0, []))], [(0, 680), (1, 1), (3, 240), (3, 240), ((-1), (-1)), (0, 0), (0, 4), (2, 481), (0, 120), (1, 1), (1, 1), (1, 1), (0, 480), (0, 239)], [(0, [(2, (-1)), (13, 1)]), (0, [(2, 1), (3, (-1))]), ((-1), [(2, (-2)), (7, 1)]), (2, [(2, (-1)), (8, 2)]), (0, [(0, 1), (6, (-140)), (8, (-1))]), (0, [(0, (-1)), (6, 140), (8, 1)])], [(1, 3), (2, 4), (3, 5), (4, 6), (6, 8), (5, 12), (0, 13)], (4, [])), []), (([(0, 120)], [(0, 1, (0, [])), (0, 2, (0, [])), (2, 120, (3, [])), (2, 120, (2, [])), (2, 120, (4, [])), (2, 120, (5, [])), (2, 120, (14, [])), (2, 90, (0, [(6, 1)])), (2, 91, (0, [(6, 1)])), (2, 1008, (0, [])), (2, 92, (0, [(6, 140), (8, 1)])), (3, 0, (0, []))], [(0, 680), (1, 1), (2, 246), (3, 240), (2, 240), (0, 1), (0, 4), (0, 494), (0, 120), (1, 1), (0, 480), (0, 239)], [(0, [(2, (-1)), (11, 1)]), ((-1), [(2, (-2)), (7, 1)]), (2, [(2, (-1)), (8, 2)]), (0, [(0, 1), (6, (-140)), (8, (-1))]), (0, [(0, (-1)), (6, 140), (8, 1)])], [(1, 3), (4, 6), (6, 8), (5, 10), (0, 11)], (2, [])), [])]), (247, [(([(0, 120)], [(0, 1, (0, [])), (0, 2, (0, [])), (2, 120, (3, [])), (2, 120, (2, [])), (2, 120, (4, [])), (2, 120, (5, [])), (2, 120, (14, [])), (2, 90, (0, [(6, 1)])), (2, 91, (0, [(6, 1)])), (2, 1000, (0, [])), (2, 1001, (0, [])), (2, 1008, (0, [])), (2, 92, (0, [(6, 140), (8, 1)])), (2, 93, (0, [(6, 140), (8, 1)])), (3, 0, (0, []))], [(0, 680), (1, 1), (4, 240), (4, 240), ((-1), (-1)), (0, 0), (0, 4), (2, 479), (0, 120), (1, 1), (1, 1), (1, 1), (0, 480), (2, 479), (0, 239)], [(0, [(2, (-1)), (14, 1)]), (0, [(2, 1), (3, (-1))]), (0, [(2, (-2)), (7, 1)]), ((-1), [(2, (-2)), (7, 1)]), (2, [(2, (-1)), (8, 2)]), (0, [(0, 1), (6, (-140)), (8, (-1))]), (0, [(0, (-1)), (6, 140), (8, 1)]), (0, [(7, (-1)), (13, 1)]), (0, [(7, 1), (13, (-1))])], [(1, 3), (2, 4), (3, 5), (4, 6), (6, 8), (5, 12), (0, 14)], (3, [])), [])])]
def yQs_clA : List sQ := [yQ293, yQ294, yQ328, yQ329, yQ330, yQ295, yQ304, yQ228, yQ230, yQ291]
theorem yHs_clA {gv : Nat → zH → Int} (hg : sGv yReg yGu gv) (hp : yHy gv 6) : ∀ Q ∈ yQs_clA, ySum gv Q := (yCons (yS293 hg (yHy_le (by decide) hp)) (yCons (yS294 hg (yHy_le (by decide) hp)) (yCons (yS328 hg (yHy_le (by decide) hp)) (yCons (yS329 hg (yHy_le (by decide) hp)) (yCons (yS330 hg (yHy_le (by decide) hp)) (yCons (yS295 hg) (yCons (yS304 hg) (yCons (yS228 hg) (yCons (yS230 hg) (yCons (yS291 hg) yNil))))))))))
def yQ_clA1 : sQ := (yQ_clA.1, yQ_clA.2.1, yQ_clA.2.2.1.take 5, yQ_clA.2.2.2.1, yQ_clA.2.2.2.2)
theorem yC_clA : (ySeg 500 yQ_clA1 yL_clA yQs_clA 0 yQ_clA1.2.1 [] && yL_clA.all (fun p => p.1 == 247 || p.2.all (fun A => ySeg 500 yQ_clA1 yL_clA yQs_clA p.1 A.1 A.2))) = true := by decide +kernel
def yB_clA : sA := ([(0, 120)], [(0, 1, (0, [])), (0, 2, (0, [])), (2, 120, (3, [])), (2, 120, (2, [])), (2, 120, (4, [])), (2, 120, (5, [])), (2, 120, (14, [])), (2, 90, (0, [(6, 1)])), (2, 91, (0, [(6, 1)])), (2, 1000, (0, [])), (2, 1001, (0, [])), (2, 1008, (0, [])), (2, 92, (0, [(6, 140), (8, 1)])), (2, 93, (0, [(6, 140), (8, 1)])), (3, 0, (0, []))], [(0, 680), (1, 1), (4, 240), (4, 240), ((-1), (-1)), (0, 0), (0, 4), (2, 479), (0, 120), (1, 1), (1, 1), (1, 1), (0, 480), (2, 479), (0, 239)], [(0, [(2, (-1)), (14, 1)]), (0, [(2, 1), (3, (-1))]), (0, [(2, (-2)), (7, 1)]), ((-1), [(2, (-2)), (7, 1)]), (2, [(2, (-1)), (8, 2)]), (0, [(0, 1), (6, (-140)), (8, (-1))]), (0, [(0, (-1)), (6, 140), (8, 1)]), (0, [(7, (-1)), (13, 1)]), (0, [(7, 1), (13, (-1))])], [(1, 3), (2, 4), (3, 5), (4, 6), (6, 8), (5, 12), (0, 14)], (3, []))
theorem yJ_clA : slab yQ_clA1 yL_clA 247 = [yB_clA] := rfl
def yE_clA : sA := ([(0, 120)], [(0, 1, (0, [])), (0, 2, (0, [])), (2, 120, (3, [])), (2, 120, (2, [])), (2, 120, (4, [])), (2, 120, (5, [])), (2, 120, (14, [])), (2, 90, (0, [(6, 1)])), (2, 91, (0, [(6, 1)])), (2, 1000, (0, [])), (2, 1001, (0, [])), (2, 1008, (0, [])), (2, 92, (0, [(6, 140), (8, 1)])), (2, 93, (0, [(6, 140), (8, 1)]))], [(0, 680), (1, 1), (4, 240), (4, 240), ((-1), (-1)), (0, 0), (0, 4), (2, 479), (0, 120), (0, 0), (1, 1), (1, 1), (0, 480), (2, 479)], [(0, [(2, 1), (3, (-1))]), (0, [(2, (-2)), (7, 1)]), ((-1), [(2, (-2)), (7, 1)]), (2, [(2, (-1)), (8, 2)]), (0, [(0, 1), (6, (-140)), (8, (-1))]), (0, [(0, (-1)), (6, 140), (8, 1)]), (0, [(7, (-1)), (13, 1)]), (0, [(7, 1), (13, (-1))])], [(0, 0), (1, 1), (2, 2), (3, 3), (4, 4), (5, 5), (6, 6), (7, 7), (8, 8), (9, 9), (10, 10), (11, 11), (12, 12), (13, 13)], (1, []))
def yX_clA : List sX := [(none, [(120, (3, []), (0, [(14, 1)])), (120, (4, []), (0, [(4, 1)])), (120, (5, []), (0, [(5, 1)])), (90, (0, [(6, 1)]), (0, [(15, 1)])), (91, (0, [(6, 1)]), (1, [(8, 1)])), (1000, (0, []), (0, [(16, 1)])), (1001, (0, []), (0, [(17, 1)])), (1008, (0, []), (0, [(18, 1)])), (92, (0, [(6, 140), (8, 1)]), (0, [(12, 1)])), (93, (0, [(6, 140), (8, 1)]), (0, [(13, 1)])), (94, (0, [(6, 140), (8, 1)]), (0, [(15, 1)]))], [(4, 240), (1, 481), (1, 1), (1, 1), (1, 1)], [(0, [(2, 1), (14, (-1))]), (0, [(3, (-1)), (14, 1)]), ((-1), [(14, (-2)), (15, 1)])], [0, 3, 5, 6, 7]), (none, [(120, (3, []), (0, [(14, 1)])), (120, (4, []), (0, [(15, 1)])), (120, (5, []), (0, [(16, 1)])), (90, (0, [(6, 1)]), (0, [(17, 1)])), (91, (0, [(6, 1)]), (1, [(8, 1)])), (1008, (0, []), (0, [(18, 1)]))], [(2, 246), (2, 240), (0, 1), (0, 493), (1, 1)], [], [0, 1, 2, 3, 5])]
theorem yD_clA : sseg yPI yMl yMr yFld yKI yKL yGst yLdS yFldS yAcp yCal yReg yRin ySin yG yGu (fun _ => []) yQs_clA yQ_clA.2.2.2.1 yQ_clA.2.2.2.2 14 yX_clA 111 500 247 true (sAs yE_clA) = true := by decide +kernel
def yQ_clB : sQ := (111, ([(0, 120)], [(2, 120, (3, [])), (2, 120, (2, [])), (2, 120, (4, [])), (2, 120, (5, [])), (2, 120, (14, [])), (2, 90, (0, [(4, 1)])), (2, 91, (0, [(4, 1)])), (2, 1000, (0, [])), (2, 1001, (0, [])), (2, 1008, (0, [])), (3, 10, (0, [])), (2, 92, (0, [(10, 1)])), (2, 93, (0, [(10, 1)])), (2, 94, (0, [(10, 1)]))], [(0, 240), (0, 240), ((-1), (-1)), (0, 0), (0, 4), (0, 480), (0, 120), (0, 0), (1, 1), (1, 1), (0, 699), ((-2147483648), 2147483647), ((-2147483648), 2147483647), ((-2147483648), 2147483647)], [(0, [(0, 1), (1, (-1))]), (0, [(0, (-2)), (5, 1)]), (0, [(0, (-1)), (6, 2)]), (1, [(4, (-140)), (6, (-1)), (10, 1)])], [(0, 0), (1, 1), (2, 2), (3, 3), (4, 4), (5, 5), (6, 6), (7, 7), (8, 8), (9, 9), (10, 10), (11, 11), (12, 12), (13, 13)], (10, [])), [(none, [(120, (3, []), (0, [(14, 1)])), (120, (4, []), (0, [(15, 1)])), (120, (5, []), (0, [(3, 1)])), (90, (0, [(4, 1)]), (0, [(5, 1)])), (91, (0, [(4, 1)]), (0, [(6, 1)])), (1008, (0, []), (0, [(9, 1)])), (92, (0, [(10, 1)]), (0, [(11, 1)])), (93, (0, [(10, 1)]), (0, [(12, 1)])), (94, (0, [(10, 1)]), (0, [(13, 1)]))], [(2, 242), (0, 240)], [(0, [(0, 1), (14, (-1))]), (0, [(5, 1), (14, (-2))]), ((-1), [(5, 1), (14, (-2))]), (0, [(6, 2), (14, (-1))]), ((-2), [(6, 2), (14, (-1))])], [0, 1]), (none, [(120, (3, []), (0, [(14, 1)])), (120, (4, []), (0, [(2, 1)])), (120, (5, []), (0, [(3, 1)])), (90, (0, [(4, 1)]), (0, [(15, 1)])), (91, (0, [(4, 1)]), (1, [(6, 1)])), (1000, (0, []), (0, [(16, 1)])), (1001, (0, []), (0, [(17, 1)])), (1008, (0, []), (0, [(18, 1)])), (92, (0, [(4, 140), (6, 1)]), (0, [(5, 1)])), (93, (0, [(4, 140), (6, 1)]), (0, [(5, 1)])), (94, (0, [(4, 140), (6, 1)]), (0, [(15, 1)])), (92, (0, [(10, 1)]), (0, [(11, 1)])), (93, (0, [(10, 1)]), (0, [(12, 1)])), (94, (0, [(10, 1)]), (0, [(13, 1)]))], [(2, 240), (1, 481), (1, 1), (1, 1), (1, 1)], [((-239), [(0, 1)]), (2, [(1, (-1))]), ((-679), [(10, 1)]), (0, [(0, 1), (14, (-1))]), (0, [(1, (-1)), (14, 1)]), ((-1), [(14, (-2)), (15, 1)]), (2, [(6, 2), (14, (-1))]), (0, [(6, 2), (14, (-1))])], [0, 3, 5, 6, 7]), (none, [(120, (3, []), (0, [(14, 1)])), (120, (4, []), (0, [(15, 1)])), (120, (5, []), (0, [(16, 1)])), (90, (0, [(4, 1)]), (0, [(17, 1)])), (91, (0, [(4, 1)]), (1, [(6, 1)])), (1008, (0, []), (0, [(18, 1)])), (92, (0, [(4, 140), (6, 1)]), (0, [(5, 1)])), (93, (0, [(4, 140), (6, 1)]), (0, [(5, 1)])), (94, (0, [(4, 140), (6, 1)]), (0, [(17, 1)])), (92, (0, [(10, 1)]), (0, [(11, 1)])), (93, (0, [(10, 1)]), (0, [(12, 1)])), (94, (0, [(10, 1)]), (0, [(13, 1)]))], [(2, 246), (2, 240), (0, 1), (0, 493), (1, 1)], [((-239), [(0, 1)]), (2, [(1, (-1))]), ((-679), [(10, 1)]), (0, [(0, 1), (14, (-1))]), ((-1), [(14, (-2)), (17, 1)]), (2, [(6, 2), (14, (-1))]), (0, [(6, 2), (14, (-1))])], [0, 1, 2, 3, 5]), (none, [(120, (3, []), (0, [(14, 1)])), (120, (4, []), (0, [(15, 1)])), (120, (5, []), (0, [(3, 1)])), (90, (0, [(4, 1)]), (0, [(16, 1)])), (91, (0, [(4, 1)]), (0, [(6, 1)])), (1008, (0, []), (0, [(17, 1)])), (92, (0, [(4, 140), (6, 1)]), (0, [(5, 1)])), (93, (0, [(4, 140), (6, 1)]), (0, [(5, 1)])), (92, (0, [(10, 1)]), (0, [(11, 1)])), (93, (0, [(10, 1)]), (0, [(12, 1)])), (94, (0, [(10, 1)]), (0, [(13, 1)]))], [(3, 240), (3, 240), (2, 481), (1, 1)], [((-239), [(0, 1)]), (3, [(1, (-1))]), ((-679), [(10, 1)]), (0, [(0, 1), (14, (-1))]), (0, [(1, (-1)), (14, 1)]), ((-1), [(14, (-2)), (16, 1)]), (0, [(6, 2), (14, (-1))]), ((-2), [(6, 2), (14, (-1))])], [0, 1, 3, 5]), (none, [(120, (3, []), (0, [(14, 1)])), (120, (4, []), (0, [(15, 1)])), (120, (5, []), (0, [(16, 1)])), (90, (0, [(4, 1)]), (0, [(17, 1)])), (91, (0, [(4, 1)]), (1, [(6, 1)])), (1008, (0, []), (0, [(18, 1)])), (92, (0, [(4, 140), (6, 1)]), (0, [(5, 1)])), (93, (0, [(4, 140), (6, 1)]), (0, [(19, 1)])), (94, (0, [(4, 140), (6, 1)]), (0, [(20, 1)])), (92, (0, [(10, 1)]), (0, [(11, 1)])), (93, (0, [(10, 1)]), (0, [(12, 1)])), (94, (0, [(10, 1)]), (0, [(13, 1)]))], [(2, 246), (2, 240), (0, 1), (0, 493), (1, 1), (0, 480), (0, 493)], [((-239), [(0, 1)]), (3, [(1, (-1))]), ((-679), [(10, 1)]), (0, [(0, 1), (14, (-1))]), ((-1), [(14, (-2)), (17, 1)]), (2, [(6, 2), (14, (-1))]), (0, [(6, 2), (14, (-1))])], [0, 1, 2, 3, 5, 7, 8]), (none, [(120, (3, []), (0, [(14, 1)])), (120, (4, []), (0, [(2, 1)])), (120, (5, []), (0, [(3, 1)])), (90, (0, [(4, 1)]), (0, [(15, 1)])), (91, (0, [(4, 1)]), (1, [(6, 1)])), (1000, (0, []), (0, [(16, 1)])), (1001, (0, []), (0, [(17, 1)])), (1008, (0, []), (0, [(18, 1)])), (92, (0, [(4, 140), (6, 1)]), (0, [(5, 1)])), (93, (0, [(4, 140), (6, 1)]), (0, [(19, 1)])), (94, (0, [(4, 140), (6, 1)]), (0, [(15, 1)])), (92, (0, [(10, 1)]), (0, [(11, 1)])), (93, (0, [(10, 1)]), (0, [(12, 1)])), (94, (0, [(10, 1)]), (0, [(13, 1)]))], [(4, 240), (1, 481), (1, 1), (1, 1), (1, 1), (2, 479)], [((-239), [(0, 1)]), (4, [(1, (-1))]), ((-679), [(10, 1)]), (0, [(1, (-1)), (14, 1)]), (0, [(0, 1), (14, (-1))]), ((-1), [(14, (-2)), (15, 1)]), (2, [(6, 2), (14, (-1))]), (0, [(6, 2), (14, (-1))])], [0, 3, 5, 6, 7, 9])], [(120, 3, 5), (91, 0, 4), (88, 0, 2599), (90, 0, 4), (93, 1, 680), (94, 1, 680), (92, 0, 680), (89, 0, 2599)], 34)
def yL_clB : List (Nat × List sAp) := [(129, [(([(0, 120)], [(0, 1, (0, [])), (0, 2, (0, [])), (2, 120, (3, [])), (2, 120, (2, [])), (2, 120, (4, [])), (2, 120, (5, [])), (2, 120, (14, [])), (2, 90, (0, [(6, 1)])), (2, 91, (0, [(6, 1)])), (2, 1000, (0, [])), (2, 1001, (0, [])), (2, 1008, (0, [])), (2, 92, (0, [(6, 140), (8, 1)])), (3, 10, (0, [])), (2, 92, (0, [(13, 1)])), (2, 93, (0, [(13, 1)])), (2, 94, (0, [(13, 1)])), (3, 0, (0, []))], [(1, 680), (0, 0), (2, 240), (2, 240), ((-1), (-1)), (0, 0), (0, 4), (0, 478), (0, 120), (0, 0), (1, 1), (1, 1), (0, 478), (0, 679), ((-2147483648), 2147483647), ((-2147483648), 2147483647), ((-2147483648), 2147483647), (0, 238)], [(0, [(2, (-1)), (17, 1)]), (0, [(2, 1), (3, (-1))]), (0, [(2, (-2)), (7, 1)]), ((-1), [(2, (-2)), (7, 1)]), (2, [(2, (-1)), (8, 2)]), (0, [(0, 1), (6, (-140)), (8, (-1))]), (0, [(0, (-1)), (6, 140), (8, 1)]), (1, [(6, (-140)), (8, (-1)), (13, 1)])], [(1, 3), (2, 4), (3, 5), (4, 6), (5, 7), (6, 8), (7, 9), (8, 10), (9, 11), (5, 12), (10, 13), (11, 14), (12, 15), (13, 16), (0, 17)], (8, [])), []), (([(0, 120)], [(0, 1, (0, [])), (0, 2, (0, [])), (2, 120, (3, [])), (2, 120, (2, [])), (2, 120, (4, [])), (2, 120, (5, [])), (2, 120, (14, [])), (2, 90, (0, [(6, 1)])), (2, 91, (0, [(6, 1)])), (2, 1000, (0, [])), (2, 1001, (0, [])), (2, 1008, (0, [])), (2, 92, (0, [(6, 140), (8, 1)])), (3, 10, (0, [])), (2, 92, (0, [(13, 1)])), (2, 93, (0, [(13, 1)])), (2, 94, (0, [(13, 1)])), (3, 0, (0, []))], [(1, 680), (1, 1), (2, 239), (3, 240), ((-1), (-1)), (0, 0), (0, 4), (0, 478), (0, 120), (0, 0), (1, 1), (1, 1), (0, 478), (0, 679), ((-2147483648), 2147483647), ((-2147483648), 2147483647), ((-2147483648), 2147483647), (0, 238)], [(0, [(2, (-1)), (17, 1)]), (0, [(2, 1), (3, (-1))]), (0, [(2, (-2)), (7, 1)]), ((-1), [(2, (-2)), (7, 1)]), (2, [(2, (-1)), (8, 2)]), (0, [(0, 1), (6, (-140)), (8, (-1))]), (0, [(0, (-1)), (6, 140), (8, 1)]), (1, [(6, (-140)), (8, (-1)), (13, 1)])], [(1, 3), (2, 4), (3, 5), (4, 6), (5, 7), (6, 8), (7, 9), (8, 10), (9, 11), (5, 12), (10, 13), (11, 14), (12, 15), (13, 16), (0, 17)], (9, [])), [])]), (168, [(([(0, 120)], [(0, 1, (0, [])), (0, 2, (0, [])), (2, 120, (3, [])), (2, 120, (2, [])), (2, 120, (4, [])), (2, 120, (5, [])), (2, 120, (14, [])), (2, 90, (0, [(6, 1)])), (2, 91, (0, [(6, 1)])), (2, 1000, (0, [])), (2, 1001, (0, [])), (2, 1008, (0, [])), (2, 92, (0, [(6, 140), (8, 1)])), (3, 10, (0, [])), (2, 92, (0, [(13, 1)])), (2, 93, (0, [(13, 1)])), (2, 94, (0, [(13, 1)])), (3, 0, (0, []))], [(1, 680), (0, 0), (2, 240), (2, 240), ((-1), (-1)), (0, 0), (0, 4), (1, 481), (0, 120), (1, 1), (1, 1), (1, 1), (0, 478), (0, 679), ((-2147483648), 2147483647), ((-2147483648), 2147483647), ((-2147483648), 2147483647), (0, 238)], [(0, [(2, (-1)), (17, 1)]), (0, [(2, 1), (3, (-1))]), ((-1), [(2, (-2)), (7, 1)]), (2, [(2, (-1)), (8, 2)]), (0, [(0, 1), (6, (-140)), (8, (-1))]), (0, [(0, (-1)), (6, 140), (8, 1)]), (1, [(6, (-140)), (8, (-1)), (13, 1)])], [(1, 3), (2, 4), (3, 5), (4, 6), (6, 8), (5, 12), (10, 13), (11, 14), (12, 15), (13, 16), (0, 17)], (1, [])), []), (([(0, 120)], [(0, 1, (0, [])), (0, 2, (0, [])), (2, 120, (3, [])), (2, 120, (2, [])), (2, 120, (4, [])), (2, 120, (5, [])), (2, 120, (14, [])), (2, 90, (0, [(6, 1)])), (2, 91, (0, [(6, 1)])), (2, 1008, (0, [])), (2, 92, (0, [(6, 140), (8, 1)])), (3, 10, (0, [])), (2, 92, (0, [(11, 1)])), (2, 93, (0, [(11, 1)])), (2, 94, (0, [(11, 1)])), (3, 0, (0, []))], [(1, 680), (0, 0), (2, 246), (2, 240), (2, 240), (0, 1), (0, 4), (0, 493), (0, 120), (1, 1), (0, 478), (0, 679), ((-2147483648), 2147483647), ((-2147483648), 2147483647), ((-2147483648), 2147483647), (0, 238)], [(0, [(2, (-1)), (15, 1)]), ((-1), [(2, (-2)), (7, 1)]), (2, [(2, (-1)), (8, 2)]), (0, [(0, 1), (6, (-140)), (8, (-1))]), (0, [(0, (-1)), (6, 140), (8, 1)]), (1, [(6, (-140)), (8, (-1)), (11, 1)])], [(1, 3), (4, 6), (6, 8), (5, 10), (10, 11), (11, 12), (12, 13), (13, 14), (0, 15)], (7, [])), []), (([(0, 120)], [(0, 1, (0, [])), (0, 2, (0, [])), (2, 120, (3, [])), (2, 120, (2, [])), (2, 120, (4, [])), (2, 120, (5, [])), (2, 120, (14, [])), (2, 90, (0, [(6, 1)])), (2, 91, (0, [(6, 1)])), (2, 1000, (0, [])), (2, 1001, (0, [])), (2, 1008, (0, [])), (2, 92, (0, [(6, 140), (8, 1)])), (3, 10, (0, [])), (2, 92, (0, [(13, 1)])), (2, 93, (0, [(13, 1)])), (2, 94, (0, [(13, 1)])), (3, 0, (0, []))], [(1, 680), (1, 1), (2, 239), (3, 240), ((-1), (-1)), (0, 0), (0, 4), (1, 481), (0, 120), (1, 1), (1, 1), (1, 1), (0, 478), (0, 679), ((-2147483648), 2147483647), ((-2147483648), 2147483647), ((-2147483648), 2147483647), (0, 238)], [(0, [(2, (-1)), (17, 1)]), (0, [(2, 1), (3, (-1))]), ((-1), [(2, (-2)), (7, 1)]), (2, [(2, (-1)), (8, 2)]), (0, [(0, 1), (6, (-140)), (8, (-1))]), (0, [(0, (-1)), (6, 140), (8, 1)]), (1, [(6, (-140)), (8, (-1)), (13, 1)])], [(1, 3), (2, 4), (3, 5), (4, 6), (6, 8), (5, 12), (10, 13), (11, 14), (12, 15), (13, 16), (0, 17)], (5, [])), [])]), (184, [(([(0, 120)], [(0, 1, (0, [])), (0, 2, (0, [])), (2, 120, (3, [])), (2, 120, (2, [])), (2, 120, (4, [])), (2, 120, (5, [])), (2, 120, (14, [])), (2, 90, (0, [(6, 1)])), (2, 91, (0, [(6, 1)])), (2, 1000, (0, [])), (2, 1001, (0, [])), (2, 1008, (0, [])), (2, 92, (0, [(6, 140), (8, 1)])), (3, 10, (0, [])), (2, 92, (0, [(13, 1)])), (2, 93, (0, [(13, 1)])), (2, 94, (0, [(13, 1)])), (3, 0, (0, []))], [(1, 680), (0, 0), (2, 240), (2, 240), ((-1), (-1)), (0, 0), (0, 4), (1, 481), (0, 120), (1, 1), (1, 1), (1, 1), (0, 480), (0, 679), ((-2147483648), 2147483647), ((-2147483648), 2147483647), ((-2147483648), 2147483647), (0, 239)], [(0, [(2, (-1)), (17, 1)]), (0, [(2, 1), (3, (-1))]), ((-1), [(2, (-2)), (7, 1)]), (2, [(2, (-1)), (8, 2)]), (0, [(0, 1), (6, (-140)), (8, (-1))]), (0, [(0, (-1)), (6, 140), (8, 1)]), (1, [(6, (-140)), (8, (-1)), (13, 1)])], [(1, 3), (2, 4), (3, 5), (4, 6), (6, 8), (5, 12), (10, 13), (11, 14), (12, 15), (13, 16), (0, 17)], (0, [])), []), (([(0, 120)], [(0, 1, (0, [])), (0, 2, (0, [])), (2, 120, (3, [])), (2, 120, (2, [])), (2, 120, (4, [])), (2, 120, (5, [])), (2, 120, (14, [])), (2, 90, (0, [(6, 1)])), (2, 91, (0, [(6, 1)])), (2, 1008, (0, [])), (2, 92, (0, [(6, 140), (8, 1)])), (3, 10, (0, [])), (2, 92, (0, [(11, 1)])), (2, 93, (0, [(11, 1)])), (2, 94, (0, [(11, 1)])), (3, 0, (0, []))], [(1, 680), (0, 0), (2, 246), (2, 240), (2, 240), (0, 1), (0, 4), (0, 493), (0, 120), (1, 1), (0, 480), (0, 679), ((-2147483648), 2147483647), ((-2147483648), 2147483647), ((-2147483648), 2147483647), (0, 239)], [(0, [(2, (-1)), (15, 1)]), ((-1), [(2, (-2)), (7, 1)]), (2, [(2, (-1)), (8, 2)]), (0, [(0, 1), (6, (-140)), (8, (-1))]), (0, [(0, (-1)), (6, 140), (8, 1)]), (1, [(6, (-140)), (8, (-1)), (11, 1)])], [(1, 3), (4, 6), (6, 8), (5, 10), (10, 11), (11, 12), (12, 13), (13, 14), (0, 15)], (6, [])), []), (([(0, 120)], [(0, 1, (0, [])), (0, 2, (0, [])), (2, 120, (3, [])), (2, 120, (2, [])), (2, 120, (4, [])), (2, 120, (5, [])), (2, 120, (14, [])), (2, 90, (0, [(6, 1)])), (2, 91, (0, [(6, 1)])), (2, 1000, (0, [])), (2, 1001, (0, [])), (2, 1008, (0, [])), (2, 92, (0, [(6, 140), (8, 1)])), (3, 10, (0, [])), (2, 92, (0, [(13, 1)])), (2, 93, (0, [(13, 1)])), (2, 94, (0, [(13, 1)])), (3, 0, (0, []))], [(1, 680), (1, 1), (3, 240), (3, 240), ((-1), (-1)), (0, 0), (0, 4), (2, 481), (0, 120), (1, 1), (1, 1), (1, 1), (0, 480), (0, 679), ((-2147483648), 2147483647), ((-2147483648), 2147483647), ((-2147483648), 2147483647), (0, 239)], [(0, [(2, (-1)), (17, 1)]), (0, [(2, 1), (3, (-1))]), ((-1), [(2, (-2)), (7, 1)]), (2, [(2, (-1)), (8, 2)]), (0, [(0, 1), (6, (-140)), (8, (-1))]), (0, [(0, (-1)), (6, 140), (8, 1)]), (1, [(6, (-140)), (8, (-1)), (13, 1)])], [(1, 3), (2, 4), (3, 5), (4, 6), (6, 8), (5, 12), (10, 13), (11, 14), (12, 15), (13, 16), (0, 17)], (4, [])), []), (([(0, 120)], [(0, 1, (0, [])), (0, 2, (0, [])), (2, 120, (3, [])), (2, 120, (2, [])), (2, 120, (4, [])), (2, 120, (5, [])), (2, 120, (14, [])), (2, 90, (0, [(6, 1)])), (2, 91, (0, [(6, 1)])), (2, 1008, (0, [])), (2, 92, (0, [(6, 140), (8, 1)])), (3, 10, (0, [])), (2, 92, (0, [(11, 1)])), (2, 93, (0, [(11, 1)])), (2, 94, (0, [(11, 1)])), (3, 0, (0, []))], [(1, 680), (1, 1), (2, 246), (3, 240), (2, 240), (0, 1), (0, 4), (0, 494), (0, 120), (1, 1), (0, 480), (0, 679), ((-2147483648), 2147483647), ((-2147483648), 2147483647), ((-2147483648), 2147483647), (0, 239)], [(0, [(2, (-1)), (15, 1)]), ((-1), [(2, (-2)), (7, 1)]), (2, [(2, (-1)), (8, 2)]), (0, [(0, 1), (6, (-140)), (8, (-1))]), (0, [(0, (-1)), (6, 140), (8, 1)]), (1, [(6, (-140)), (8, (-1)), (11, 1)])], [(1, 3), (4, 6), (6, 8), (5, 10), (10, 11), (11, 12), (12, 13), (13, 14), (0, 15)], (2, [])), [])]), (247, [(([(0, 120)], [(0, 1, (0, [])), (0, 2, (0, [])), (2, 120, (3, [])), (2, 120, (2, [])), (2, 120, (4, [])), (2, 120, (5, [])), (2, 120, (14, [])), (2, 90, (0, [(6, 1)])), (2, 91, (0, [(6, 1)])), (2, 1000, (0, [])), (2, 1001, (0, [])), (2, 1008, (0, [])), (2, 92, (0, [(6, 140), (8, 1)])), (2, 93, (0, [(6, 140), (8, 1)])), (3, 10, (0, [])), (2, 92, (0, [(14, 1)])), (2, 93, (0, [(14, 1)])), (2, 94, (0, [(14, 1)])), (3, 0, (0, []))], [(1, 680), (1, 1), (4, 240), (4, 240), ((-1), (-1)), (0, 0), (0, 4), (2, 479), (0, 120), (1, 1), (1, 1), (1, 1), (0, 480), (2, 479), (0, 679), ((-2147483648), 2147483647), ((-2147483648), 2147483647), ((-2147483648), 2147483647), (0, 239)], [(0, [(2, (-1)), (18, 1)]), (0, [(2, 1), (3, (-1))]), (0, [(2, (-2)), (7, 1)]), ((-1), [(2, (-2)), (7, 1)]), (2, [(2, (-1)), (8, 2)]), (0, [(0, 1), (6, (-140)), (8, (-1))]), (0, [(0, (-1)), (6, 140), (8, 1)]), (0, [(7, (-1)), (13, 1)]), (0, [(7, 1), (13, (-1))]), (1, [(6, (-140)), (8, (-1)), (14, 1)])], [(1, 3), (2, 4), (3, 5), (4, 6), (6, 8), (5, 12), (10, 14), (11, 15), (12, 16), (13, 17), (0, 18)], (3, [])), [])])]
def yQs_clB : List sQ := [yQ293, yQ294, yQ328, yQ329, yQ330, yQ295, yQ304, yQ228, yQ230, yQ291]
theorem yHs_clB {gv : Nat → zH → Int} (hg : sGv yReg yGu gv) (hp : yHy gv 6) : ∀ Q ∈ yQs_clB, ySum gv Q := (yCons (yS293 hg (yHy_le (by decide) hp)) (yCons (yS294 hg (yHy_le (by decide) hp)) (yCons (yS328 hg (yHy_le (by decide) hp)) (yCons (yS329 hg (yHy_le (by decide) hp)) (yCons (yS330 hg (yHy_le (by decide) hp)) (yCons (yS295 hg) (yCons (yS304 hg) (yCons (yS228 hg) (yCons (yS230 hg) (yCons (yS291 hg) yNil))))))))))
def yQ_clB1 : sQ := (yQ_clB.1, yQ_clB.2.1, yQ_clB.2.2.1.take 5, yQ_clB.2.2.2.1, yQ_clB.2.2.2.2)
theorem yC_clB : (ySeg 500 yQ_clB1 yL_clB yQs_clB 0 yQ_clB1.2.1 [] && yL_clB.all (fun p => p.1 == 247 || p.2.all (fun A => ySeg 500 yQ_clB1 yL_clB yQs_clB p.1 A.1 A.2))) = true := by decide +kernel
def yB_clB : sA := ([(0, 120)], [(0, 1, (0, [])), (0, 2, (0, [])), (2, 120, (3, [])), (2, 120, (2, [])), (2, 120, (4, [])), (2, 120, (5, [])), (2, 120, (14, [])), (2, 90, (0, [(6, 1)])), (2, 91, (0, [(6, 1)])), (2, 1000, (0, [])), (2, 1001, (0, [])), (2, 1008, (0, [])), (2, 92, (0, [(6, 140), (8, 1)])), (2, 93, (0, [(6, 140), (8, 1)])), (3, 10, (0, [])), (2, 92, (0, [(14, 1)])), (2, 93, (0, [(14, 1)])), (2, 94, (0, [(14, 1)])), (3, 0, (0, []))], [(1, 680), (1, 1), (4, 240), (4, 240), ((-1), (-1)), (0, 0), (0, 4), (2, 479), (0, 120), (1, 1), (1, 1), (1, 1), (0, 480), (2, 479), (0, 679), ((-2147483648), 2147483647), ((-2147483648), 2147483647), ((-2147483648), 2147483647), (0, 239)], [(0, [(2, (-1)), (18, 1)]), (0, [(2, 1), (3, (-1))]), (0, [(2, (-2)), (7, 1)]), ((-1), [(2, (-2)), (7, 1)]), (2, [(2, (-1)), (8, 2)]), (0, [(0, 1), (6, (-140)), (8, (-1))]), (0, [(0, (-1)), (6, 140), (8, 1)]), (0, [(7, (-1)), (13, 1)]), (0, [(7, 1), (13, (-1))]), (1, [(6, (-140)), (8, (-1)), (14, 1)])], [(1, 3), (2, 4), (3, 5), (4, 6), (6, 8), (5, 12), (10, 14), (11, 15), (12, 16), (13, 17), (0, 18)], (3, []))
theorem yJ_clB : slab yQ_clB1 yL_clB 247 = [yB_clB] := rfl
def yE_clB : sA := ([(0, 120)], [(0, 1, (0, [])), (0, 2, (0, [])), (2, 120, (3, [])), (2, 120, (2, [])), (2, 120, (4, [])), (2, 120, (5, [])), (2, 120, (14, [])), (2, 90, (0, [(6, 1)])), (2, 91, (0, [(6, 1)])), (2, 1000, (0, [])), (2, 1001, (0, [])), (2, 1008, (0, [])), (2, 92, (0, [(6, 140), (8, 1)])), (2, 93, (0, [(6, 140), (8, 1)])), (3, 14, (0, [])), (2, 92, (0, [(14, 1)])), (2, 93, (0, [(14, 1)])), (2, 94, (0, [(14, 1)]))], [(1, 680), (1, 1), (4, 240), (4, 240), ((-1), (-1)), (0, 0), (0, 4), (2, 479), (0, 120), (0, 0), (1, 1), (1, 1), (0, 480), (2, 479), (0, 679), ((-2147483648), 2147483647), ((-2147483648), 2147483647), ((-2147483648), 2147483647)], [(0, [(2, 1), (3, (-1))]), (0, [(2, (-2)), (7, 1)]), ((-1), [(2, (-2)), (7, 1)]), (2, [(2, (-1)), (8, 2)]), (0, [(0, 1), (6, (-140)), (8, (-1))]), (0, [(0, (-1)), (6, 140), (8, 1)]), (0, [(7, (-1)), (13, 1)]), (0, [(7, 1), (13, (-1))]), (1, [(6, (-140)), (8, (-1)), (14, 1)])], [(0, 0), (1, 1), (2, 2), (3, 3), (4, 4), (5, 5), (6, 6), (7, 7), (8, 8), (9, 9), (10, 10), (11, 11), (12, 12), (13, 13), (14, 14), (15, 15), (16, 16), (17, 17)], (1, []))
def yX_clB : List sX := [(none, [(120, (3, []), (0, [(18, 1)])), (120, (4, []), (0, [(4, 1)])), (120, (5, []), (0, [(5, 1)])), (90, (0, [(6, 1)]), (0, [(19, 1)])), (91, (0, [(6, 1)]), (1, [(8, 1)])), (1000, (0, []), (0, [(20, 1)])), (1001, (0, []), (0, [(21, 1)])), (1008, (0, []), (0, [(22, 1)])), (92, (0, [(6, 140), (8, 1)]), (0, [(12, 1)])), (93, (0, [(6, 140), (8, 1)]), (0, [(13, 1)])), (94, (0, [(6, 140), (8, 1)]), (0, [(19, 1)])), (92, (0, [(14, 1)]), (0, [(15, 1)])), (93, (0, [(14, 1)]), (0, [(16, 1)])), (94, (0, [(14, 1)]), (0, [(17, 1)]))], [(4, 240), (1, 481), (1, 1), (1, 1), (1, 1)], [(0, [(2, 1), (18, (-1))]), (0, [(3, (-1)), (18, 1)]), ((-1), [(18, (-2)), (19, 1)])], [0, 3, 5, 6, 7]), (none, [(120, (3, []), (0, [(18, 1)])), (120, (4, []), (0, [(19, 1)])), (120, (5, []), (0, [(20, 1)])), (90, (0, [(6, 1)]), (0, [(21, 1)])), (91, (0, [(6, 1)]), (1, [(8, 1)])), (1008, (0, []), (0, [(22, 1)])), (92, (0, [(14, 1)]), (0, [(15, 1)])), (93, (0, [(14, 1)]), (0, [(16, 1)])), (94, (0, [(14, 1)]), (0, [(17, 1)]))], [(2, 246), (2, 240), (0, 1), (0, 493), (1, 1)], [], [0, 1, 2, 3, 5])]
theorem yD_clB : sseg yPI yMl yMr yFld yKI yKL yGst yLdS yFldS yAcp yCal yReg yRin ySin yG yGu (fun _ => []) yQs_clB yQ_clB.2.2.2.1 yQ_clB.2.2.2.2 18 yX_clB 111 500 247 true (sAs yE_clB) = true := by decide +kernel
def yQ_clC : sQ := (111, ([(0, 120)], [(2, 120, (3, [])), (2, 120, (2, [])), (2, 120, (4, [])), (2, 120, (5, [])), (2, 120, (14, [])), (2, 90, (0, [(4, 1)])), (2, 91, (0, [(4, 1)])), (2, 1000, (0, [])), (2, 1001, (0, [])), (2, 1008, (0, [])), (3, 10, (0, [])), (2, 91, (0, [(10, 1)]))], [(0, 240), (0, 240), ((-1), (-1)), (0, 0), (0, 4), (0, 480), (0, 120), (0, 0), (1, 1), (1, 1), (0, 4), ((-2147483648), 2147483647)], [(0, [(0, 1), (1, (-1))]), (0, [(0, (-2)), (5, 1)]), (0, [(0, (-1)), (6, 2)]), (1, [(4, (-1)), (10, 1)])], [(0, 0), (1, 1), (2, 2), (3, 3), (4, 4), (5, 5), (6, 6), (7, 7), (8, 8), (9, 9), (10, 10), (11, 11)], (10, [])), [(none, [(120, (3, []), (0, [(12, 1)])), (120, (4, []), (0, [(13, 1)])), (120, (5, []), (0, [(3, 1)])), (90, (0, [(4, 1)]), (0, [(5, 1)])), (91, (0, [(4, 1)]), (0, [(6, 1)])), (1008, (0, []), (0, [(9, 1)])), (91, (0, [(10, 1)]), (0, [(11, 1)]))], [(2, 242), (0, 240)], [(0, [(0, 1), (12, (-1))]), (0, [(5, 1), (12, (-2))]), ((-1), [(5, 1), (12, (-2))]), (0, [(6, 2), (12, (-1))]), ((-2), [(6, 2), (12, (-1))])], [0, 1]), (none, [(120, (3, []), (0, [(12, 1)])), (120, (4, []), (0, [(2, 1)])), (120, (5, []), (0, [(3, 1)])), (90, (0, [(4, 1)]), (0, [(13, 1)])), (91, (0, [(4, 1)]), (1, [(6, 1)])), (1000, (0, []), (0, [(14, 1)])), (1001, (0, []), (0, [(15, 1)])), (1008, (0, []), (0, [(16, 1)])), (92, (0, [(4, 140), (6, 1)]), (0, [(5, 1)])), (93, (0, [(4, 140), (6, 1)]), (0, [(5, 1)])), (94, (0, [(4, 140), (6, 1)]), (0, [(13, 1)])), (91, (0, [(10, 1)]), (0, [(11, 1)]))], [(2, 240), (1, 481), (1, 1), (1, 1), (1, 1)], [((-239), [(0, 1)]), (2, [(1, (-1))]), (1, [(4, (-1))]), ((-3), [(10, 1)]), (0, [(0, 1), (12, (-1))]), (0, [(1, (-1)), (12, 1)]), ((-1), [(12, (-2)), (13, 1)]), (2, [(6, 2), (12, (-1))]), (0, [(6, 2), (12, (-1))])], [0, 3, 5, 6, 7]), (none, [(120, (3, []), (0, [(12, 1)])), (120, (4, []), (0, [(13, 1)])), (120, (5, []), (0, [(14, 1)])), (90, (0, [(4, 1)]), (0, [(15, 1)])), (91, (0, [(4, 1)]), (1, [(6, 1)])), (1008, (0, []), (0, [(16, 1)])), (92, (0, [(4, 140), (6, 1)]), (0, [(5, 1)])), (93, (0, [(4, 140), (6, 1)]), (0, [(5, 1)])), (94, (0, [(4, 140), (6, 1)]), (0, [(15, 1)])), (91, (0, [(10, 1)]), (0, [(11, 1)]))], [(2, 246), (2, 240), (0, 1), (0, 493), (1, 1)], [((-239), [(0, 1)]), (2, [(1, (-1))]), (1, [(4, (-1))]), ((-3), [(10, 1)]), (0, [(0, 1), (12, (-1))]), ((-1), [(12, (-2)), (15, 1)]), (2, [(6, 2), (12, (-1))]), (0, [(6, 2), (12, (-1))])], [0, 1, 2, 3, 5]), (none, [(120, (3, []), (0, [(12, 1)])), (120, (4, []), (0, [(13, 1)])), (120, (5, []), (0, [(3, 1)])), (90, (0, [(4, 1)]), (0, [(14, 1)])), (91, (0, [(4, 1)]), (0, [(6, 1)])), (1008, (0, []), (0, [(15, 1)])), (92, (0, [(4, 140), (6, 1)]), (0, [(5, 1)])), (93, (0, [(4, 140), (6, 1)]), (0, [(5, 1)])), (91, (0, [(10, 1)]), (0, [(11, 1)]))], [(3, 240), (3, 240), (2, 481), (1, 1)], [((-239), [(0, 1)]), (3, [(1, (-1))]), (1, [(4, (-1))]), ((-3), [(10, 1)]), (0, [(0, 1), (12, (-1))]), (0, [(1, (-1)), (12, 1)]), ((-1), [(12, (-2)), (14, 1)]), (0, [(6, 2), (12, (-1))]), ((-2), [(6, 2), (12, (-1))])], [0, 1, 3, 5]), (none, [(120, (3, []), (0, [(12, 1)])), (120, (4, []), (0, [(13, 1)])), (120, (5, []), (0, [(14, 1)])), (90, (0, [(4, 1)]), (0, [(15, 1)])), (91, (0, [(4, 1)]), (1, [(6, 1)])), (1008, (0, []), (0, [(16, 1)])), (92, (0, [(4, 140), (6, 1)]), (0, [(5, 1)])), (93, (0, [(4, 140), (6, 1)]), (0, [(17, 1)])), (94, (0, [(4, 140), (6, 1)]), (0, [(18, 1)])), (91, (0, [(10, 1)]), (0, [(11, 1)]))], [(2, 246), (2, 240), (0, 1), (0, 493), (1, 1), (0, 480), (0, 493)], [((-239), [(0, 1)]), (3, [(1, (-1))]), (1, [(4, (-1))]), ((-3), [(10, 1)]), (0, [(0, 1), (12, (-1))]), ((-1), [(12, (-2)), (15, 1)]), (2, [(6, 2), (12, (-1))]), (0, [(6, 2), (12, (-1))])], [0, 1, 2, 3, 5, 7, 8]), (none, [(120, (3, []), (0, [(12, 1)])), (120, (4, []), (0, [(2, 1)])), (120, (5, []), (0, [(3, 1)])), (90, (0, [(4, 1)]), (0, [(13, 1)])), (91, (0, [(4, 1)]), (1, [(6, 1)])), (1000, (0, []), (0, [(14, 1)])), (1001, (0, []), (0, [(15, 1)])), (1008, (0, []), (0, [(16, 1)])), (92, (0, [(4, 140), (6, 1)]), (0, [(5, 1)])), (93, (0, [(4, 140), (6, 1)]), (0, [(17, 1)])), (94, (0, [(4, 140), (6, 1)]), (0, [(13, 1)])), (91, (0, [(10, 1)]), (0, [(11, 1)]))], [(4, 240), (1, 481), (1, 1), (1, 1), (1, 1), (2, 479)], [((-239), [(0, 1)]), (4, [(1, (-1))]), (1, [(4, (-1))]), ((-3), [(10, 1)]), (0, [(1, (-1)), (12, 1)]), (0, [(0, 1), (12, (-1))]), ((-1), [(12, (-2)), (13, 1)]), (2, [(6, 2), (12, (-1))]), (0, [(6, 2), (12, (-1))])], [0, 3, 5, 6, 7, 9])], [(120, 3, 5), (91, 1, 4), (88, 0, 2599), (90, 0, 4), (93, 140, 680), (94, 140, 680), (92, 0, 680), (89, 0, 2599)], 34)
def yL_clC : List (Nat × List sAp) := [(129, [(([(0, 120)], [(0, 1, (0, [])), (0, 2, (0, [])), (2, 120, (3, [])), (2, 120, (2, [])), (2, 120, (4, [])), (2, 120, (5, [])), (2, 120, (14, [])), (2, 90, (0, [(6, 1)])), (2, 91, (0, [(6, 1)])), (2, 1000, (0, [])), (2, 1001, (0, [])), (2, 1008, (0, [])), (2, 92, (0, [(6, 140), (8, 1)])), (3, 10, (0, [])), (2, 91, (0, [(13, 1)])), (3, 0, (0, []))], [(140, 680), (0, 0), (2, 240), (2, 240), ((-1), (-1)), (0, 0), (1, 4), (0, 478), (0, 120), (0, 0), (1, 1), (1, 1), (0, 478), (0, 3), ((-2147483648), 2147483647), (0, 238)], [(0, [(2, (-1)), (15, 1)]), (0, [(2, 1), (3, (-1))]), (0, [(2, (-2)), (7, 1)]), ((-1), [(2, (-2)), (7, 1)]), (2, [(2, (-1)), (8, 2)]), (0, [(0, 1), (6, (-140)), (8, (-1))]), (0, [(0, (-1)), (6, 140), (8, 1)]), (1, [(6, (-1)), (13, 1)])], [(1, 3), (2, 4), (3, 5), (4, 6), (5, 7), (6, 8), (7, 9), (8, 10), (9, 11), (5, 12), (10, 13), (11, 14), (0, 15)], (8, [])), []), (([(0, 120)], [(0, 1, (0, [])), (0, 2, (0, [])), (2, 120, (3, [])), (2, 120, (2, [])), (2, 120, (4, [])), (2, 120, (5, [])), (2, 120, (14, [])), (2, 90, (0, [(6, 1)])), (2, 91, (0, [(6, 1)])), (2, 1000, (0, [])), (2, 1001, (0, [])), (2, 1008, (0, [])), (2, 92, (0, [(6, 140), (8, 1)])), (3, 10, (0, [])), (2, 91, (0, [(13, 1)])), (3, 0, (0, []))], [(140, 680), (1, 1), (2, 239), (3, 240), ((-1), (-1)), (0, 0), (1, 4), (0, 478), (0, 120), (0, 0), (1, 1), (1, 1), (0, 478), (0, 3), ((-2147483648), 2147483647), (0, 238)], [(0, [(2, (-1)), (15, 1)]), (0, [(2, 1), (3, (-1))]), (0, [(2, (-2)), (7, 1)]), ((-1), [(2, (-2)), (7, 1)]), (2, [(2, (-1)), (8, 2)]), (0, [(0, 1), (6, (-140)), (8, (-1))]), (0, [(0, (-1)), (6, 140), (8, 1)]), (1, [(6, (-1)), (13, 1)])], [(1, 3), (2, 4), (3, 5), (4, 6), (5, 7), (6, 8), (7, 9), (8, 10), (9, 11), (5, 12), (10, 13), (11, 14), (0, 15)], (9, [])), [])]), (168, [(([(0, 120)], [(0, 1, (0, [])), (0, 2, (0, [])), (2, 120, (3, [])), (2, 120, (2, [])), (2, 120, (4, [])), (2, 120, (5, [])), (2, 120, (14, [])), (2, 90, (0, [(6, 1)])), (2, 91, (0, [(6, 1)])), (2, 1000, (0, [])), (2, 1001, (0, [])), (2, 1008, (0, [])), (2, 92, (0, [(6, 140), (8, 1)])), (3, 10, (0, [])), (2, 91, (0, [(13, 1)])), (3, 0, (0, []))], [(140, 680), (0, 0), (2, 240), (2, 240), ((-1), (-1)), (0, 0), (1, 4), (1, 481), (0, 120), (1, 1), (1, 1), (1, 1), (0, 478), (0, 3), ((-2147483648), 2147483647), (0, 238)], [(0, [(2, (-1)), (15, 1)]), (0, [(2, 1), (3, (-1))]), ((-1), [(2, (-2)), (7, 1)]), (2, [(2, (-1)), (8, 2)]), (0, [(0, 1), (6, (-140)), (8, (-1))]), (0, [(0, (-1)), (6, 140), (8, 1)]), (1, [(6, (-1)), (13, 1)])], [(1, 3), (2, 4), (3, 5), (4, 6), (6, 8), (5, 12), (10, 13), (11, 14), (0, 15)], (1, [])), []), (([(0, 120)], [(0, 1, (0, [])), (0, 2, (0, [])), (2, 120, (3, [])), (2, 120, (2, [])), (2, 120, (4, [])), (2, 120, (5, [])), (2, 120, (14, [])), (2, 90, (0, [(6, 1)])), (2, 91, (0, [(6, 1)])), (2, 1008, (0, [])), (2, 92, (0, [(6, 140), (8, 1)])), (3, 10, (0, [])), (2, 91, (0, [(11, 1)])), (3, 0, (0, []))], [(140, 680), (0, 0), (2, 246), (2, 240), (2, 240), (0, 1), (1, 4), (0, 493), (0, 120), (1, 1), (0, 478), (0, 3), ((-2147483648), 2147483647), (0, 238)], [(0, [(2, (-1)), (13, 1)]), ((-1), [(2, (-2)), (7, 1)]), (2, [(2, (-1)), (8, 2)]), (0, [(0, 1), (6, (-140)), (8, (-1))]), (0, [(0, (-1)), (6, 140), (8, 1)]), (1, [(6, (-1)), (11, 1)])], [(1, 3), (4, 6), (6, 8), (5, 10), (10, 11), (11, 12), (0, 13)], (7, [])), []), (([(0, 120)], [(0, 1, (0, [])), (0, 2, (0, [])), (2, 120, (3, [])), (2, 120, (2, [])), (2, 120, (4, [])), (2, 120, (5, [])), (2, 120, (14, [])), (2, 90, (0, [(6, 1)])), (2, 91, (0, [(6, 1)])), (2, 1000, (0, [])), (2, 1001, (0, [])), (2, 1008, (0, [])), (2, 92, (0, [(6, 140), (8, 1)])), (3, 10, (0, [])), (2, 91, (0, [(13, 1)])), (3, 0, (0, []))], [(140, 680), (1, 1), (2, 239), (3, 240), ((-1), (-1)), (0, 0), (1, 4), (1, 481), (0, 120), (1, 1), (1, 1), (1, 1), (0, 478), (0, 3), ((-2147483648), 2147483647), (0, 238)], [(0, [(2, (-1)), (15, 1)]), (0, [(2, 1), (3, (-1))]), ((-1), [(2, (-2)), (7, 1)]), (2, [(2, (-1)), (8, 2)]), (0, [(0, 1), (6, (-140)), (8, (-1))]), (0, [(0, (-1)), (6, 140), (8, 1)]), (1, [(6, (-1)), (13, 1)])], [(1, 3), (2, 4), (3, 5), (4, 6), (6, 8), (5, 12), (10, 13), (11, 14), (0, 15)], (5, [])), [])]), (184, [(([(0, 120)], [(0, 1, (0, [])), (0, 2, (0, [])), (2, 120, (3, [])), (2, 120, (2, [])), (2, 120, (4, [])), (2, 120, (5, [])), (2, 120, (14, [])), (2, 90, (0, [(6, 1)])), (2, 91, (0, [(6, 1)])), (2, 1000, (0, [])), (2, 1001, (0, [])), (2, 1008, (0, [])), (2, 92, (0, [(6, 140), (8, 1)])), (3, 10, (0, [])), (2, 91, (0, [(13, 1)])), (3, 0, (0, []))], [(140, 680), (0, 0), (2, 240), (2, 240), ((-1), (-1)), (0, 0), (1, 4), (1, 481), (0, 120), (1, 1), (1, 1), (1, 1), (0, 480), (0, 3), ((-2147483648), 2147483647), (0, 239)], [(0, [(2, (-1)), (15, 1)]), (0, [(2, 1), (3, (-1))]), ((-1), [(2, (-2)), (7, 1)]), (2, [(2, (-1)), (8, 2)]), (0, [(0, 1), (6, (-140)), (8, (-1))]), (0, [(0, (-1)), (6, 140), (8, 1)]), (1, [(6, (-1)), (13, 1)])], [(1, 3), (2, 4), (3, 5), (4, 6), (6, 8), (5, 12), (10, 13), (11, 14), (0, 15)], (0, [])), []), (([(0, 120)], [(0, 1, (0, [])), (0, 2, (0, [])), (2, 120, (3, [])), (2, 120, (2, [])), (2, 120, (4, [])), (2, 120, (5, [])), (2, 120, (14, [])), (2, 90, (0, [(6, 1)])), (2, 91, (0, [(6, 1)])), (2, 1008, (0, [])), (2, 92, (0, [(6, 140), (8, 1)])), (3, 10, (0, [])), (2, 91, (0, [(11, 1)])), (3, 0, (0, []))], [(140, 680), (0, 0), (2, 246), (2, 240), (2, 240), (0, 1), (1, 4), (0, 493), (0, 120), (1, 1), (0, 480), (0, 3), ((-2147483648), 2147483647), (0, 239)], [(0, [(2, (-1)), (13, 1)]), ((-1), [(2, (-2)), (7, 1)]), (2, [(2, (-1)), (8, 2)]), (0, [(0, 1), (6, (-140)), (8, (-1))]), (0, [(0, (-1)), (6, 140), (8, 1)]), (1, [(6, (-1)), (11, 1)])], [(1, 3), (4, 6), (6, 8), (5, 10), (10, 11), (11, 12), (0, 13)], (6, [])), []), (([(0, 120)], [(0, 1, (0, [])), (0, 2, (0, [])), (2, 120, (3, [])), (2, 120, (2, [])), (2, 120, (4, [])), (2, 120, (5, [])), (2, 120, (14, [])), (2, 90, (0, [(6, 1)])), (2, 91, (0, [(6, 1)])), (2, 1000, (0, [])), (2, 1001, (0, [])), (2, 1008, (0, [])), (2, 92, (0, [(6, 140), (8, 1)])), (3, 10, (0, [])), (2, 91, (0, [(13, 1)])), (3, 0, (0, []))], [(140, 680), (1, 1), (3, 240), (3, 240), ((-1), (-1)), (0, 0), (1, 4), (2, 481), (0, 120), (1, 1), (1, 1), (1, 1), (0, 480), (0, 3), ((-2147483648), 2147483647), (0, 239)], [(0, [(2, (-1)), (15, 1)]), (0, [(2, 1), (3, (-1))]), ((-1), [(2, (-2)), (7, 1)]), (2, [(2, (-1)), (8, 2)]), (0, [(0, 1), (6, (-140)), (8, (-1))]), (0, [(0, (-1)), (6, 140), (8, 1)]), (1, [(6, (-1)), (13, 1)])], [(1, 3), (2, 4), (3, 5), (4, 6), (6, 8), (5, 12), (10, 13), (11, 14), (0, 15)], (4, [])), []), (([(0, 120)], [(0, 1, (0, [])), (0, 2, (0, [])), (2, 120, (3, [])), (2, 120, (2, [])), (2, 120, (4, [])), (2, 120, (5, [])), (2, 120, (14, [])), (2, 90, (0, [(6, 1)])), (2, 91, (0, [(6, 1)])), (2, 1008, (0, [])), (2, 92, (0, [(6, 140), (8, 1)])), (3, 10, (0, [])), (2, 91, (0, [(11, 1)])), (3, 0, (0, []))], [(140, 680), (1, 1), (2, 246), (3, 240), (2, 240), (0, 1), (1, 4), (0, 494), (0, 120), (1, 1), (0, 480), (0, 3), ((-2147483648), 2147483647), (0, 239)], [(0, [(2, (-1)), (13, 1)]), ((-1), [(2, (-2)), (7, 1)]), (2, [(2, (-1)), (8, 2)]), (0, [(0, 1), (6, (-140)), (8, (-1))]), (0, [(0, (-1)), (6, 140), (8, 1)]), (1, [(6, (-1)), (11, 1)])], [(1, 3), (4, 6), (6, 8), (5, 10), (10, 11), (11, 12), (0, 13)], (2, [])), [])]), (247, [(([(0, 120)], [(0, 1, (0, [])), (0, 2, (0, [])), (2, 120, (3, [])), (2, 120, (2, [])), (2, 120, (4, [])), (2, 120, (5, [])), (2, 120, (14, [])), (2, 90, (0, [(6, 1)])), (2, 91, (0, [(6, 1)])), (2, 1000, (0, [])), (2, 1001, (0, [])), (2, 1008, (0, [])), (2, 92, (0, [(6, 140), (8, 1)])), (2, 93, (0, [(6, 140), (8, 1)])), (3, 10, (0, [])), (2, 91, (0, [(14, 1)])), (3, 0, (0, []))], [(140, 680), (1, 1), (4, 240), (4, 240), ((-1), (-1)), (0, 0), (1, 4), (2, 479), (0, 120), (1, 1), (1, 1), (1, 1), (0, 480), (2, 479), (0, 3), ((-2147483648), 2147483647), (0, 239)], [(0, [(2, (-1)), (16, 1)]), (0, [(2, 1), (3, (-1))]), (0, [(2, (-2)), (7, 1)]), ((-1), [(2, (-2)), (7, 1)]), (2, [(2, (-1)), (8, 2)]), (0, [(0, 1), (6, (-140)), (8, (-1))]), (0, [(0, (-1)), (6, 140), (8, 1)]), (0, [(7, (-1)), (13, 1)]), (0, [(7, 1), (13, (-1))]), (1, [(6, (-1)), (14, 1)])], [(1, 3), (2, 4), (3, 5), (4, 6), (6, 8), (5, 12), (10, 14), (11, 15), (0, 16)], (3, [])), [])])]
def yQs_clC : List sQ := [yQ293, yQ294, yQ328, yQ329, yQ330, yQ295, yQ304, yQ228, yQ230, yQ291]
theorem yHs_clC {gv : Nat → zH → Int} (hg : sGv yReg yGu gv) (hp : yHy gv 6) : ∀ Q ∈ yQs_clC, ySum gv Q := (yCons (yS293 hg (yHy_le (by decide) hp)) (yCons (yS294 hg (yHy_le (by decide) hp)) (yCons (yS328 hg (yHy_le (by decide) hp)) (yCons (yS329 hg (yHy_le (by decide) hp)) (yCons (yS330 hg (yHy_le (by decide) hp)) (yCons (yS295 hg) (yCons (yS304 hg) (yCons (yS228 hg) (yCons (yS230 hg) (yCons (yS291 hg) yNil))))))))))
def yQ_clC1 : sQ := (yQ_clC.1, yQ_clC.2.1, yQ_clC.2.2.1.take 5, yQ_clC.2.2.2.1, yQ_clC.2.2.2.2)
theorem yC_clC : (ySeg 500 yQ_clC1 yL_clC yQs_clC 0 yQ_clC1.2.1 [] && yL_clC.all (fun p => p.1 == 247 || p.2.all (fun A => ySeg 500 yQ_clC1 yL_clC yQs_clC p.1 A.1 A.2))) = true := by decide +kernel
def yB_clC : sA := ([(0, 120)], [(0, 1, (0, [])), (0, 2, (0, [])), (2, 120, (3, [])), (2, 120, (2, [])), (2, 120, (4, [])), (2, 120, (5, [])), (2, 120, (14, [])), (2, 90, (0, [(6, 1)])), (2, 91, (0, [(6, 1)])), (2, 1000, (0, [])), (2, 1001, (0, [])), (2, 1008, (0, [])), (2, 92, (0, [(6, 140), (8, 1)])), (2, 93, (0, [(6, 140), (8, 1)])), (3, 10, (0, [])), (2, 91, (0, [(14, 1)])), (3, 0, (0, []))], [(140, 680), (1, 1), (4, 240), (4, 240), ((-1), (-1)), (0, 0), (1, 4), (2, 479), (0, 120), (1, 1), (1, 1), (1, 1), (0, 480), (2, 479), (0, 3), ((-2147483648), 2147483647), (0, 239)], [(0, [(2, (-1)), (16, 1)]), (0, [(2, 1), (3, (-1))]), (0, [(2, (-2)), (7, 1)]), ((-1), [(2, (-2)), (7, 1)]), (2, [(2, (-1)), (8, 2)]), (0, [(0, 1), (6, (-140)), (8, (-1))]), (0, [(0, (-1)), (6, 140), (8, 1)]), (0, [(7, (-1)), (13, 1)]), (0, [(7, 1), (13, (-1))]), (1, [(6, (-1)), (14, 1)])], [(1, 3), (2, 4), (3, 5), (4, 6), (6, 8), (5, 12), (10, 14), (11, 15), (0, 16)], (3, []))
theorem yJ_clC : slab yQ_clC1 yL_clC 247 = [yB_clC] := rfl
def yE_clC : sA := ([(0, 120)], [(0, 1, (0, [])), (0, 2, (0, [])), (2, 120, (3, [])), (2, 120, (2, [])), (2, 120, (4, [])), (2, 120, (5, [])), (2, 120, (14, [])), (2, 90, (0, [(6, 1)])), (2, 91, (0, [(6, 1)])), (2, 1000, (0, [])), (2, 1001, (0, [])), (2, 1008, (0, [])), (2, 92, (0, [(6, 140), (8, 1)])), (2, 93, (0, [(6, 140), (8, 1)])), (3, 14, (0, [])), (2, 91, (0, [(14, 1)]))], [(140, 680), (1, 1), (4, 240), (4, 240), ((-1), (-1)), (0, 0), (1, 4), (2, 479), (0, 120), (0, 0), (1, 1), (1, 1), (0, 480), (2, 479), (0, 3), ((-2147483648), 2147483647)], [(0, [(2, 1), (3, (-1))]), (0, [(2, (-2)), (7, 1)]), ((-1), [(2, (-2)), (7, 1)]), (2, [(2, (-1)), (8, 2)]), (0, [(0, 1), (6, (-140)), (8, (-1))]), (0, [(0, (-1)), (6, 140), (8, 1)]), (0, [(7, (-1)), (13, 1)]), (0, [(7, 1), (13, (-1))]), (1, [(6, (-1)), (14, 1)])], [(0, 0), (1, 1), (2, 2), (3, 3), (4, 4), (5, 5), (6, 6), (7, 7), (8, 8), (9, 9), (10, 10), (11, 11), (12, 12), (13, 13), (14, 14), (15, 15)], (1, []))
def yX_clC : List sX := [(none, [(120, (3, []), (0, [(16, 1)])), (120, (4, []), (0, [(4, 1)])), (120, (5, []), (0, [(5, 1)])), (90, (0, [(6, 1)]), (0, [(17, 1)])), (91, (0, [(6, 1)]), (1, [(8, 1)])), (1000, (0, []), (0, [(18, 1)])), (1001, (0, []), (0, [(19, 1)])), (1008, (0, []), (0, [(20, 1)])), (92, (0, [(6, 140), (8, 1)]), (0, [(12, 1)])), (93, (0, [(6, 140), (8, 1)]), (0, [(13, 1)])), (94, (0, [(6, 140), (8, 1)]), (0, [(17, 1)])), (91, (0, [(14, 1)]), (0, [(15, 1)]))], [(4, 240), (1, 481), (1, 1), (1, 1), (1, 1)], [(0, [(2, 1), (16, (-1))]), (0, [(3, (-1)), (16, 1)]), ((-1), [(16, (-2)), (17, 1)])], [0, 3, 5, 6, 7]), (none, [(120, (3, []), (0, [(16, 1)])), (120, (4, []), (0, [(17, 1)])), (120, (5, []), (0, [(18, 1)])), (90, (0, [(6, 1)]), (0, [(19, 1)])), (91, (0, [(6, 1)]), (1, [(8, 1)])), (1008, (0, []), (0, [(20, 1)])), (91, (0, [(14, 1)]), (0, [(15, 1)]))], [(2, 246), (2, 240), (0, 1), (0, 493), (1, 1)], [], [0, 1, 2, 3, 5])]
theorem yD_clC : sseg yPI yMl yMr yFld yKI yKL yGst yLdS yFldS yAcp yCal yReg yRin ySin yG yGu (fun _ => []) yQs_clC yQ_clC.2.2.2.1 yQ_clC.2.2.2.2 16 yX_clC 111 500 247 true (sAs yE_clC) = true := by decide +kernel
/-! clause, by hand: its run cut where the sum begins -/
theorem yCut {Q : sQ} {L : List (Nat × List sAp)} {Qs : List sQ} {cut : Nat} (hc : (ySeg 500 Q L Qs 0 Q.2.1 [] && L.all (fun p => p.1 == cut || p.2.all (fun A => ySeg 500 Q L Qs p.1 A.1 A.2))) = true) : ∀ pc A, A ∈ slab Q L pc → pc ≠ cut → ∃ sp : List (sE × List Int), ∀ S ∈ ssps sp [sAs A], sseg yPI yMl yMr yFld yKI yKL yGst yLdS yFldS yAcp yCal yReg yRin ySin yG yGu (slab Q L) Qs Q.2.2.2.1 Q.2.2.2.2 Q.2.1.2.1.length Q.2.2.1 Q.1 500 pc true S = true := by
  intro pc A hA hne
  rw [Bool.and_eq_true] at hc
  have hf : ∀ (A : sA), A ∈ (slb0 L pc).map (·.1) → ∃ sp, ySeg 500 Q L Qs pc A sp = true := by
    intro A hA
    obtain ⟨B, hB, rfl⟩ := List.mem_map.mp hA
    unfold slb0 at hB
    cases hl : L.find? (fun p => p.1 == pc) with
    | none => rw [hl] at hB; cases hB
    | some p =>
      rw [hl] at hB
      have h1 : p.1 = pc := by have := List.find?_some hl; simpa using this
      have := (List.all_eq_true.mp hc.2) p (List.mem_of_find?_eq_some hl)
      rw [h1] at this
      rcases Bool.or_eq_true_iff.mp this with q | q
      · exact absurd (by simpa using q) hne
      · exact ⟨_, (List.all_eq_true.mp q) B hB⟩
  have key : ∃ sp, ySeg 500 Q L Qs pc A sp = true := by
    unfold slab at hA
    by_cases h0 : pc = 0
    · rw [if_pos h0] at hA
      rcases List.mem_cons.mp hA with rfl | hA
      · rw [h0]
        exact ⟨_, hc.1⟩
      · exact hf A (by rw [h0]; exact hA)
    · rw [if_neg h0] at hA
      exact hf A hA
  obtain ⟨sp, hs⟩ := key
  exact ⟨sp, List.all_eq_true.mp hs⟩
/-- the first six contracts by hand -/
theorem yHy6 {t s : Nat} (ht : t < 5) {c0 v0 : Nat → Int} {ar : Nat → Int32} : yHy (yGv t s c0 v0 ar) 6 := by
  intro i Q hi e
  match i, hi, e with
  | 0, _, e => cases e; exact yT0_ok ht
  | 1, _, e => cases e; exact yT1_ok ht
  | 2, _, e => cases e; exact yT2_ok ht
  | 3, _, e => cases e; exact yT3_ok ht
  | 4, _, e => cases e; exact yT4_ok ht
  | 5, _, e => cases e; exact yT5_ok ht
  | k + 6, hi, _ => omega
def yclU (t s0 : Nat) (h h' : zH) : Prop := ∀ i, i < 2600 → (i < 520 * t + s0 ∨ 520 * t + 520 ≤ i) → yv h' 408 i = yv h 408 i ∧ yv h' 409 i = yv h 409 i
def yclG (t s0 k0 : Nat) (a0 z : Int) (h' : zH) : Prop := (a0 ≤ yv h' 440 3 ∧ yv h' 440 3 ≤ z) ∧ yv h' 440 4 = -1 ∧ yv h' 440 5 = 0 ∧ yv h' 411 t = k0 + 1 ∧ 2 * (k0 : Int) + 2 ≤ yv h' 440 3 ∧ ∃ sf e : Nat, yv h' 410 t = e ∧ (e : Int) ≤ 2 * yv h' 440 3 + 1 ∧ e ≤ 481 ∧ s0 ≤ sf ∧ sf ≤ e ∧ yv h' 412 (140 * t + k0) = s0 ∧ yv h' 413 (140 * t + k0) = sf ∧ yv h' 414 (140 * t + k0) = e ∧ ywf h' (520 * t + s0) (sf - s0) ∧ ywf h' (520 * t + sf) (e - sf)
def yclX (t : Nat) (h' : zH) : Prop := (0 ≤ yv h' 440 3 ∧ yv h' 440 3 ≤ 250) ∧ (0 ≤ yv h' 440 4 ∧ yv h' 440 4 ≤ 250) ∧ (0 ≤ yv h' 440 5 ∧ yv h' 440 5 ≤ 10) ∧ (0 ≤ yv h' 410 t ∧ yv h' 410 t ≤ 519) ∧ (0 ≤ yv h' 411 t ∧ yv h' 411 t ≤ 139)
theorem ycl_A {d : Nat} (hd : 34 ≤ d) {h : zH} (hG : sG yReg yG h) {args : List zV} (ar0 : yrf (zent 0 args) 0 (0, 120)) {a0 z : Int} {t s0 k0 : Nat} (ht : t < 5) (e3 : yv h 440 3 = a0) (e2 : yv h 440 2 = z) (e4 : yv h 440 4 = -1) (e5 : yv h 440 5 = 0) (e14 : yv h 440 14 = t) (ec : yv h 410 t = s0) (ek : yv h 411 t = k0) (b0 : 0 ≤ a0 ∧ a0 ≤ 240) (bz : 0 ≤ z ∧ z ≤ 240) (bs : s0 ≤ 480) (bk : k0 ≤ 120) (k1 : a0 ≤ z) (k2 : (s0 : Int) ≤ 2 * a0) (k3 : 2 * (k0 : Int) ≤ a0) : ∃ m r h', yrun m d 111 args h = some (r, h') ∧ (r = none ∧ sG yReg yG h' ∧ sF yReg yQ_clA.2.2.2.1 h h' ∧ yclU t s0 h h' ∧ (yclG t s0 k0 a0 z h' ∨ yclX t h')) := by
  have hn0 : (yv h 410 t - (s0 : Int)).toNat = 0 := by rw [ec]; omega
  have hM : sMt yReg (yGv t s0 (yv h 408) (yv h 409) (fun _ => 0)) (yρ [a0, z, (-1), 0, (t : Int), (s0 : Int), (k0 : Int), 0, 1, 1]) (yρ0 [a0, z, (-1), 0, (t : Int), (s0 : Int), (k0 : Int), 0, 1, 1] yQ_clA1.2.1.2.2.2.2.2) (sAs yQ_clA1.2.1) (zent 0 args) [] h := by
    refine ymk (ya1 ar0 ya0) (ya1 (yvr2 (ysm_p (k := 440) (by decide) (by decide +kernel) (by decide +kernel) (3) ?_ ?_)) (ya1 (yvr2 (ysm_p (k := 440) (by decide) (by decide +kernel) (by decide +kernel) (2) ?_ ?_)) (ya1 (yvr2 (ysm_p (k := 440) (by decide) (by decide +kernel) (by decide +kernel) (4) ?_ ?_)) (ya1 (yvr2 (ysm_p (k := 440) (by decide) (by decide +kernel) (by decide +kernel) (5) ?_ ?_)) (ya1 (yvr2 (ysm_p (k := 440) (by decide) (by decide +kernel) (by decide +kernel) (14) ?_ ?_)) (ya1 (yvr2 (ysm_p (k := 410) (by decide) (by decide +kernel) (by decide +kernel) (t) ?_ ?_)) (ya1 (yvr2 (ysm_p (k := 411) (by decide) (by decide +kernel) (by decide +kernel) (t) ?_ ?_)) (ya1 (yvr2 (ysm_g (a := 0) ?_)) (ya1 (yvr2 (ysm_g (a := 1) ?_)) (ya1 (yvr2 (ysm_g (a := 8) ?_)) ya0)))))))))) (ya1 ?_ (ya1 ?_ (ya1 ?_ (ya1 ?_ (ya1 ?_ (ya1 ?_ (ya1 ?_ (ya1 ?_ (ya1 ?_ (ya1 ?_ ya0)))))))))) (ya1 ?_ (ya1 ?_ (ya1 ?_ ya0))) (ya1 rfl (ya1 rfl (ya1 rfl (ya1 rfl (ya1 rfl (ya1 rfl (ya1 rfl (ya1 rfl (ya1 rfl (ya1 rfl ya0)))))))))) rfl
    · rfl
    · rw [sY_v]; exact e3
    · rfl
    · rw [sY_v]; exact e2
    · rfl
    · rw [sY_v]; exact e4
    · rfl
    · rw [sY_v]; exact e5
    · rfl
    · rw [sY_v]; exact e14
    · show 0 + (1 * (t : Int) + 0) = t; omega
    · rw [sY_v]; exact ec
    · show 0 + (1 * (t : Int) + 0) = t; omega
    · rw [sY_v]; exact ek
    · rw [sY_v]; show yht h (520 * t + s0) (yv h 410 t - (s0 : Int)).toNat = 0; rw [hn0]; rfl
    · rw [sY_v]; show yB (yG1 t s0 h) = 1; exact yB_1.mpr ⟨e14, by rw [ec]; exact Int.le_refl _, by rw [hn0]; exact fun j hj => absurd hj (Nat.not_lt_zero j)⟩
    · rw [sY_v]; show yB (yG8 t s0 (yv h 408) (yv h 409) h) = 1; exact yB_1.mpr ⟨e14, by rw [ec]; exact Int.le_refl _, fun i _ _ => ⟨rfl, rfl⟩⟩
    · show (0 : Int) ≤ a0 ∧ a0 ≤ (240 : Int); omega
    · show (0 : Int) ≤ z ∧ z ≤ (240 : Int); omega
    · show (-1 : Int) ≤ (-1 : Int) ∧ (-1 : Int) ≤ (-1 : Int); omega
    · show (0 : Int) ≤ (0 : Int) ∧ (0 : Int) ≤ (0 : Int); omega
    · show (0 : Int) ≤ (t : Int) ∧ (t : Int) ≤ (4 : Int); omega
    · show (0 : Int) ≤ (s0 : Int) ∧ (s0 : Int) ≤ (480 : Int); omega
    · show (0 : Int) ≤ (k0 : Int) ∧ (k0 : Int) ≤ (120 : Int); omega
    · show (0 : Int) ≤ (0 : Int) ∧ (0 : Int) ≤ (0 : Int); omega
    · show (1 : Int) ≤ (1 : Int) ∧ (1 : Int) ≤ (1 : Int); omega
    · show (1 : Int) ≤ (1 : Int) ∧ (1 : Int) ≤ (1 : Int); omega
    · show 0 + (1 * a0 + (-1 * z + 0)) ≤ 0; omega
    · show 0 + (-2 * a0 + (1 * (s0 : Int) + 0)) ≤ 0; omega
    · show 0 + (-1 * a0 + (2 * (k0 : Int) + 0)) ≤ 0; omega
  refine smeth3 (Q := yQ_clA1) (labs := slab yQ_clA1 yL_clA) (F := 500) (cut := 247) (P := fun r h' => r = none ∧ sG yReg yG h' ∧ sF yReg yQ_clA.2.2.2.1 h h' ∧ yclU t s0 h h' ∧ (yclG t s0 k0 a0 z h' ∨ yclX t h')) yComp ySing yCell yR1000 (yGvOk ht) (yHs_clA (yGvOk ht) (yHy6 ht)) (yCut yC_clA) (h := h) (ρ0 := yρ0 [a0, z, (-1), 0, (t : Int), (s0 : Int), (k0 : Int), 0, 1, 1] yQ_clA1.2.1.2.2.2.2.2) hd ?_ ?_ _ 0 _ (List.mem_cons_self ..) (zent 0 args) h _ _ (Nat.le_refl _) (fun _ => rfl) hM hG (fun _ _ hne => absurd rfl hne)
  · intro r h' hG' hF' hE
    refine yone hE (ya1 ?_ (ya1 ?_ (ya1 ?_ (ya1 ?_ (ya1 ?_ ya0)))))
    · intro hX
      obtain ⟨ρx, a, ⟨n0, n1, -⟩, -, ⟨m0, m1, m2, m3, m4, g8, -⟩, hr⟩ := yexU hX
      have x0 : ρx 0 = a0 := a 0 (by decide)
      have x1 : ρx 1 = z := a 1 (by decide)
      have x2 : ρx 2 = (-1) := a 2 (by decide)
      have x3 : ρx 3 = 0 := a 3 (by decide)
      have x4 : ρx 4 = (t : Int) := a 4 (by decide)
      have x5 : ρx 5 = (s0 : Int) := a 5 (by decide)
      have x6 : ρx 6 = (k0 : Int) := a 6 (by decide)
      have x7 : ρx 7 = 0 := a 7 (by decide)
      have x8 : ρx 8 = 1 := a 8 (by decide)
      have x9 : ρx 9 = 1 := a 9 (by decide)
      have hr : r = none := by
        match r, hr with
        | none, _ => rfl
      have v3 := ysm_u (k := 440) (by decide) (by decide +kernel) m0 3 rfl
      have v4 := ysm_u (k := 440) (by decide) (by decide +kernel) m1 4 rfl
      have v5 := ysm_u (k := 440) (by decide) (by decide +kernel) m2 5 rfl
      have vc := ysm_u (k := 410) (by decide) (by decide +kernel) m3 t (by show 0 + (1 * ρx 4 + 0) = _; rw [x4]; omega)
      have vk := ysm_u (k := 411) (by decide) (by decide +kernel) m4 t (by show 0 + (1 * ρx 4 + 0) = _; rw [x4]; omega)
      have g8 : yG8 t s0 (yv h 408) (yv h 409) h' := by
        have q := ysm_gu (a := 8) g8
        have q : yB (yG8 t s0 (yv h 408) (yv h 409) h') = 0 + (1 * ρx 9 + 0) := q
        rw [x9] at q
        exact yB_1.mp q
      have n0 : 2 ≤ ρx 10 ∧ ρx 10 ≤ 242 := n0
      have n1 : 0 ≤ ρx 11 ∧ ρx 11 ≤ 240 := n1
      have v3 : yv h' 440 3 = 0 + (1 * ρx 10 + 0) := v3
      have v4 : yv h' 440 4 = 0 + (1 * ρx 11 + 0) := v4
      have v5 : yv h' 440 5 = 0 + (1 * ρx 3 + 0) := v5
      have vc : yv h' 410 t = 0 + (1 * ρx 5 + 0) := vc
      have vk : yv h' 411 t = 0 + (1 * ρx 6 + 0) := vk
      exact ⟨hr, hG', hF', (fun i i1 i2 => g8.2.2 i i1 i2), Or.inr ⟨by omega, by omega, by omega, by omega, by omega⟩⟩
    · intro hX
      obtain ⟨ρx, a, ⟨n0, n1, -, n3, n4, -⟩, ⟨-, -, c2, c3, c4, c5, -⟩, ⟨m0, m1, m2, m3, m4, -, g1, g8, w1, w2, w3, -⟩, hr⟩ := yexU hX
      have x0 : ρx 0 = a0 := a 0 (by decide)
      have x1 : ρx 1 = z := a 1 (by decide)
      have x2 : ρx 2 = (-1) := a 2 (by decide)
      have x3 : ρx 3 = 0 := a 3 (by decide)
      have x4 : ρx 4 = (t : Int) := a 4 (by decide)
      have x5 : ρx 5 = (s0 : Int) := a 5 (by decide)
      have x6 : ρx 6 = (k0 : Int) := a 6 (by decide)
      have x7 : ρx 7 = 0 := a 7 (by decide)
      have x8 : ρx 8 = 1 := a 8 (by decide)
      have x9 : ρx 9 = 1 := a 9 (by decide)
      have hr : r = none := by
        match r, hr with
        | none, _ => rfl
      have v3 := ysm_u (k := 440) (by decide) (by decide +kernel) m0 3 rfl
      have v4 := ysm_u (k := 440) (by decide) (by decide +kernel) m1 4 rfl
      have v5 := ysm_u (k := 440) (by decide) (by decide +kernel) m2 5 rfl
      have vc := ysm_u (k := 410) (by decide) (by decide +kernel) m3 t (by show 0 + (1 * ρx 4 + 0) = _; rw [x4]; omega)
      have vk := ysm_u (k := 411) (by decide) (by decide +kernel) m4 t (by show 0 + (1 * ρx 4 + 0) = _; rw [x4]; omega)
      have n0 : 2 ≤ ρx 10 ∧ ρx 10 ≤ 240 := n0
      have n1 : 1 ≤ ρx 11 ∧ ρx 11 ≤ 481 := n1
      have n3 : 1 ≤ ρx 13 ∧ ρx 13 ≤ 1 := n3
      have n4 : 1 ≤ ρx 14 ∧ ρx 14 ≤ 1 := n4
      have y14 : ρx 14 = 1 := by omega
      have y13 : ρx 13 = 1 := by omega
      have g8 : yG8 t s0 (yv h 408) (yv h 409) h' := by
        have q := ysm_gu (a := 8) g8
        have q : yB (yG8 t s0 (yv h 408) (yv h 409) h') = 0 + (1 * ρx 14 + 0) := q
        rw [y14] at q
        exact yB_1.mp q
      have g1 : yG1 t s0 h' := by
        have q := ysm_gu (a := 1) g1
        have q : yB (yG1 t s0 h') = 0 + (1 * ρx 13 + 0) := q
        rw [y13] at q
        exact yB_1.mp q
      have c2 : 0 + (1 * ρx 0 + (-1 * ρx 10 + 0)) ≤ 0 := c2
      have c3 : 0 + (-1 * ρx 1 + (1 * ρx 10 + 0)) ≤ 0 := c3
      have c4 : -1 + (-2 * ρx 10 + (1 * ρx 11 + 0)) ≤ 0 := c4
      have c5 : 2 + (2 * ρx 6 + (-1 * ρx 10 + 0)) ≤ 0 := c5
      have w1 := ysm_u (k := 412) (by decide) (by decide +kernel) w1 (140 * t + k0) (by show 0 + (140 * ρx 4 + (1 * ρx 6 + 0)) = _; rw [x4, x6]; omega)
      have w2 := ysm_u (k := 413) (by decide) (by decide +kernel) w2 (140 * t + k0) (by show 0 + (140 * ρx 4 + (1 * ρx 6 + 0)) = _; rw [x4, x6]; omega)
      have w3 := ysm_u (k := 414) (by decide) (by decide +kernel) w3 (140 * t + k0) (by show 0 + (140 * ρx 4 + (1 * ρx 6 + 0)) = _; rw [x4, x6]; omega)
      have v3 : yv h' 440 3 = 0 + (1 * ρx 10 + 0) := v3
      have v4 : yv h' 440 4 = 0 + (1 * ρx 2 + 0) := v4
      have v5 : yv h' 440 5 = 0 + (1 * ρx 3 + 0) := v5
      have vc : yv h' 410 t = 0 + (1 * ρx 11 + 0) := vc
      have vk : yv h' 411 t = 1 + (1 * ρx 6 + 0) := vk
      have w1 : yv h' 412 (140 * t + k0) = 0 + (1 * ρx 5 + 0) := w1
      have w2 : yv h' 413 (140 * t + k0) = 0 + (1 * ρx 5 + 0) := w2
      have w3 : yv h' 414 (140 * t + k0) = 0 + (1 * ρx 11 + 0) := w3
      obtain ⟨e, he⟩ : ∃ e : Nat, ρx 11 = e := ⟨(ρx 11).toNat, by omega⟩
      have q2 := g1.2.1
      have q3 := g1.2.2
      rw [show (yv h' 410 t - (s0 : Int)).toNat = e - s0 by omega] at q3
      refine ⟨hr, hG', hF', (fun i i1 i2 => g8.2.2 i i1 i2), Or.inl ⟨by omega, by omega, by omega, by omega, by omega, s0, e, by omega, by omega, by omega, Nat.le_refl _, by omega, by omega, by omega, by omega, ?_, q3⟩⟩
      rw [Nat.sub_self]
      exact fun j hj => absurd hj (Nat.not_lt_zero j)
    · intro hX
      obtain ⟨ρx, a, ⟨n0, n1, n2, n3, n4, -⟩, -, ⟨m0, m1, m2, m3, m4, g8, -⟩, hr⟩ := yexU hX
      have x0 : ρx 0 = a0 := a 0 (by decide)
      have x1 : ρx 1 = z := a 1 (by decide)
      have x2 : ρx 2 = (-1) := a 2 (by decide)
      have x3 : ρx 3 = 0 := a 3 (by decide)
      have x4 : ρx 4 = (t : Int) := a 4 (by decide)
      have x5 : ρx 5 = (s0 : Int) := a 5 (by decide)
      have x6 : ρx 6 = (k0 : Int) := a 6 (by decide)
      have x7 : ρx 7 = 0 := a 7 (by decide)
      have x8 : ρx 8 = 1 := a 8 (by decide)
      have x9 : ρx 9 = 1 := a 9 (by decide)
      have hr : r = none := by
        match r, hr with
        | none, _ => rfl
      have v3 := ysm_u (k := 440) (by decide) (by decide +kernel) m0 3 rfl
      have v4 := ysm_u (k := 440) (by decide) (by decide +kernel) m1 4 rfl
      have v5 := ysm_u (k := 440) (by decide) (by decide +kernel) m2 5 rfl
      have vc := ysm_u (k := 410) (by decide) (by decide +kernel) m3 t (by show 0 + (1 * ρx 4 + 0) = _; rw [x4]; omega)
      have vk := ysm_u (k := 411) (by decide) (by decide +kernel) m4 t (by show 0 + (1 * ρx 4 + 0) = _; rw [x4]; omega)
      have n0 : 2 ≤ ρx 10 ∧ ρx 10 ≤ 246 := n0
      have n1 : 2 ≤ ρx 11 ∧ ρx 11 ≤ 240 := n1
      have n2 : 0 ≤ ρx 12 ∧ ρx 12 ≤ 1 := n2
      have n3 : 0 ≤ ρx 13 ∧ ρx 13 ≤ 493 := n3
      have n4 : 1 ≤ ρx 14 ∧ ρx 14 ≤ 1 := n4
      have y14 : ρx 14 = 1 := by omega
      have g8 : yG8 t s0 (yv h 408) (yv h 409) h' := by
        have q := ysm_gu (a := 8) g8
        have q : yB (yG8 t s0 (yv h 408) (yv h 409) h') = 0 + (1 * ρx 14 + 0) := q
        rw [y14] at q
        exact yB_1.mp q
      have v3 : yv h' 440 3 = 0 + (1 * ρx 10 + 0) := v3
      have v4 : yv h' 440 4 = 0 + (1 * ρx 11 + 0) := v4
      have v5 : yv h' 440 5 = 0 + (1 * ρx 12 + 0) := v5
      have vc : yv h' 410 t = 0 + (1 * ρx 13 + 0) := vc
      have vk : yv h' 411 t = 1 + (1 * ρx 6 + 0) := vk
      exact ⟨hr, hG', hF', (fun i i1 i2 => g8.2.2 i i1 i2), Or.inr ⟨by omega, by omega, by omega, by omega, by omega⟩⟩
    · intro hX
      obtain ⟨ρx, a, ⟨n0, n1, n2, n3, -⟩, -, ⟨m0, m1, m2, m3, m4, g8, -⟩, hr⟩ := yexU hX
      have x0 : ρx 0 = a0 := a 0 (by decide)
      have x1 : ρx 1 = z := a 1 (by decide)
      have x2 : ρx 2 = (-1) := a 2 (by decide)
      have x3 : ρx 3 = 0 := a 3 (by decide)
      have x4 : ρx 4 = (t : Int) := a 4 (by decide)
      have x5 : ρx 5 = (s0 : Int) := a 5 (by decide)
      have x6 : ρx 6 = (k0 : Int) := a 6 (by decide)
      have x7 : ρx 7 = 0 := a 7 (by decide)
      have x8 : ρx 8 = 1 := a 8 (by decide)
      have x9 : ρx 9 = 1 := a 9 (by decide)
      have hr : r = none := by
        match r, hr with
        | none, _ => rfl
      have v3 := ysm_u (k := 440) (by decide) (by decide +kernel) m0 3 rfl
      have v4 := ysm_u (k := 440) (by decide) (by decide +kernel) m1 4 rfl
      have v5 := ysm_u (k := 440) (by decide) (by decide +kernel) m2 5 rfl
      have vc := ysm_u (k := 410) (by decide) (by decide +kernel) m3 t (by show 0 + (1 * ρx 4 + 0) = _; rw [x4]; omega)
      have vk := ysm_u (k := 411) (by decide) (by decide +kernel) m4 t (by show 0 + (1 * ρx 4 + 0) = _; rw [x4]; omega)
      have n0 : 3 ≤ ρx 10 ∧ ρx 10 ≤ 240 := n0
      have n1 : 3 ≤ ρx 11 ∧ ρx 11 ≤ 240 := n1
      have n2 : 2 ≤ ρx 12 ∧ ρx 12 ≤ 481 := n2
      have n3 : 1 ≤ ρx 13 ∧ ρx 13 ≤ 1 := n3
      have y13 : ρx 13 = 1 := by omega
      have g8 : yG8 t s0 (yv h 408) (yv h 409) h' := by
        have q := ysm_gu (a := 8) g8
        have q : yB (yG8 t s0 (yv h 408) (yv h 409) h') = 0 + (1 * ρx 13 + 0) := q
        rw [y13] at q
        exact yB_1.mp q
      have v3 : yv h' 440 3 = 0 + (1 * ρx 10 + 0) := v3
      have v4 : yv h' 440 4 = 0 + (1 * ρx 11 + 0) := v4
      have v5 : yv h' 440 5 = 0 + (1 * ρx 3 + 0) := v5
      have vc : yv h' 410 t = 0 + (1 * ρx 12 + 0) := vc
      have vk : yv h' 411 t = 0 + (1 * ρx 6 + 0) := vk
      exact ⟨hr, hG', hF', (fun i i1 i2 => g8.2.2 i i1 i2), Or.inr ⟨by omega, by omega, by omega, by omega, by omega⟩⟩
    · intro hX
      obtain ⟨ρx, a, ⟨n0, n1, n2, n3, n4, -⟩, -, ⟨m0, m1, m2, m3, m4, g8, -⟩, hr⟩ := yexU hX
      have x0 : ρx 0 = a0 := a 0 (by decide)
      have x1 : ρx 1 = z := a 1 (by decide)
      have x2 : ρx 2 = (-1) := a 2 (by decide)
      have x3 : ρx 3 = 0 := a 3 (by decide)
      have x4 : ρx 4 = (t : Int) := a 4 (by decide)
      have x5 : ρx 5 = (s0 : Int) := a 5 (by decide)
      have x6 : ρx 6 = (k0 : Int) := a 6 (by decide)
      have x7 : ρx 7 = 0 := a 7 (by decide)
      have x8 : ρx 8 = 1 := a 8 (by decide)
      have x9 : ρx 9 = 1 := a 9 (by decide)
      have hr : r = none := by
        match r, hr with
        | none, _ => rfl
      have v3 := ysm_u (k := 440) (by decide) (by decide +kernel) m0 3 rfl
      have v4 := ysm_u (k := 440) (by decide) (by decide +kernel) m1 4 rfl
      have v5 := ysm_u (k := 440) (by decide) (by decide +kernel) m2 5 rfl
      have vc := ysm_u (k := 410) (by decide) (by decide +kernel) m3 t (by show 0 + (1 * ρx 4 + 0) = _; rw [x4]; omega)
      have vk := ysm_u (k := 411) (by decide) (by decide +kernel) m4 t (by show 0 + (1 * ρx 4 + 0) = _; rw [x4]; omega)
      have n0 : 2 ≤ ρx 10 ∧ ρx 10 ≤ 246 := n0
      have n1 : 2 ≤ ρx 11 ∧ ρx 11 ≤ 240 := n1
      have n2 : 0 ≤ ρx 12 ∧ ρx 12 ≤ 1 := n2
      have n3 : 0 ≤ ρx 13 ∧ ρx 13 ≤ 493 := n3
      have n4 : 1 ≤ ρx 14 ∧ ρx 14 ≤ 1 := n4
      have y14 : ρx 14 = 1 := by omega
      have g8 : yG8 t s0 (yv h 408) (yv h 409) h' := by
        have q := ysm_gu (a := 8) g8
        have q : yB (yG8 t s0 (yv h 408) (yv h 409) h') = 0 + (1 * ρx 14 + 0) := q
        rw [y14] at q
        exact yB_1.mp q
      have v3 : yv h' 440 3 = 0 + (1 * ρx 10 + 0) := v3
      have v4 : yv h' 440 4 = 0 + (1 * ρx 11 + 0) := v4
      have v5 : yv h' 440 5 = 0 + (1 * ρx 12 + 0) := v5
      have vc : yv h' 410 t = 0 + (1 * ρx 13 + 0) := vc
      have vk : yv h' 411 t = 1 + (1 * ρx 6 + 0) := vk
      exact ⟨hr, hG', hF', (fun i i1 i2 => g8.2.2 i i1 i2), Or.inr ⟨by omega, by omega, by omega, by omega, by omega⟩⟩
  · intro A hA loc h1 ρ ρ1 hρ hM1 hG1 hF1
    rw [yJ_clA] at hA
    have hA := List.mem_singleton.mp hA
    subst hA
    obtain ⟨⟨r0, -⟩, ⟨⟨x1, l1, l1'⟩, ⟨x2, l2, l2'⟩, m2, m3, m4, m5, m6, m7, m8, -, g1, g8, m12, m13, -⟩, ⟨b0, b1, b2, b3, b4, b5, b6, b7, b8, b9, b10, b11, b12, b13, b14, -⟩, ⟨c0, c1, c2, c3, c4, c5, c6, c7, c8, -⟩, ⟨p0, p1, p2, p3, p4, p5, p6, -⟩, -⟩ := yun hM1
    have p0 : ρ1 2 = ρ 3 := p0
    have q0 : ρ1 2 = z := hρ 1
    have p1 : ρ1 3 = ρ 4 := p1
    have q1 : ρ1 3 = (-1) := hρ 2
    have p2 : ρ1 4 = ρ 5 := p2
    have q2 : ρ1 4 = 0 := hρ 3
    have p3 : ρ1 5 = ρ 6 := p3
    have q3 : ρ1 5 = (t : Int) := hρ 4
    have p4 : ρ1 7 = ρ 8 := p4
    have q4 : ρ1 7 = (k0 : Int) := hρ 6
    have p5 : ρ1 6 = ρ 12 := p5
    have q5 : ρ1 6 = (s0 : Int) := hρ 5
    have p6 : ρ1 1 = ρ 14 := p6
    have q6 : ρ1 1 = a0 := hρ 0
    have b0 : (0 : Int) ≤ ρ 0 ∧ ρ 0 ≤ (680 : Int) := b0
    have b1 : (1 : Int) ≤ ρ 1 ∧ ρ 1 ≤ (1 : Int) := b1
    have b2 : (4 : Int) ≤ ρ 2 ∧ ρ 2 ≤ (240 : Int) := b2
    have b3 : (4 : Int) ≤ ρ 3 ∧ ρ 3 ≤ (240 : Int) := b3
    have b4 : (-1 : Int) ≤ ρ 4 ∧ ρ 4 ≤ (-1 : Int) := b4
    have b5 : (0 : Int) ≤ ρ 5 ∧ ρ 5 ≤ (0 : Int) := b5
    have b6 : (0 : Int) ≤ ρ 6 ∧ ρ 6 ≤ (4 : Int) := b6
    have b7 : (2 : Int) ≤ ρ 7 ∧ ρ 7 ≤ (479 : Int) := b7
    have b8 : (0 : Int) ≤ ρ 8 ∧ ρ 8 ≤ (120 : Int) := b8
    have b9 : (1 : Int) ≤ ρ 9 ∧ ρ 9 ≤ (1 : Int) := b9
    have b10 : (1 : Int) ≤ ρ 10 ∧ ρ 10 ≤ (1 : Int) := b10
    have b11 : (1 : Int) ≤ ρ 11 ∧ ρ 11 ≤ (1 : Int) := b11
    have b12 : (0 : Int) ≤ ρ 12 ∧ ρ 12 ≤ (480 : Int) := b12
    have b13 : (2 : Int) ≤ ρ 13 ∧ ρ 13 ≤ (479 : Int) := b13
    have l1' : x1.toInt = ρ 0 := l1'
    have l2' : x2.toInt = ρ 1 := l2'
    have c0 : 0 + (-1 * ρ 2 + (1 * ρ 14 + 0)) ≤ 0 := c0
    have c1 : 0 + (1 * ρ 2 + (-1 * ρ 3 + 0)) ≤ 0 := c1
    have c2 : 0 + (-2 * ρ 2 + (1 * ρ 7 + 0)) ≤ 0 := c2
    have c3 : -1 + (-2 * ρ 2 + (1 * ρ 7 + 0)) ≤ 0 := c3
    have c4 : 2 + (-1 * ρ 2 + (2 * ρ 8 + 0)) ≤ 0 := c4
    have c5 : 0 + (1 * ρ 0 + (-140 * ρ 6 + (-1 * ρ 8 + 0))) ≤ 0 := c5
    have c6 : 0 + (-1 * ρ 0 + (140 * ρ 6 + (1 * ρ 8 + 0))) ≤ 0 := c6
    have c7 : 0 + (-1 * ρ 7 + (1 * ρ 13 + 0)) ≤ 0 := c7
    have c8 : 0 + (1 * ρ 7 + (-1 * ρ 13 + 0)) ≤ 0 := c8
    have et : ρ 6 = t := by omega
    have ek1 : ρ 8 = k0 := by omega
    obtain ⟨s1, hs1⟩ : ∃ s1 : Nat, ρ 7 = s1 := ⟨(ρ 7).toNat, by omega⟩
    have v3 := ysm_u (k := 440) (by decide) (by decide +kernel) m2 3 rfl
    have v2 := ysm_u (k := 440) (by decide) (by decide +kernel) m3 2 rfl
    have v4 := ysm_u (k := 440) (by decide) (by decide +kernel) m4 4 rfl
    have v5 := ysm_u (k := 440) (by decide) (by decide +kernel) m5 5 rfl
    have v14 := ysm_u (k := 440) (by decide) (by decide +kernel) m6 14 rfl
    have vc := ysm_u (k := 410) (by decide) (by decide +kernel) m7 t (by show 0 + (1 * ρ 6 + 0) = _; rw [et]; omega)
    have vk := ysm_u (k := 411) (by decide) (by decide +kernel) m8 t (by show 0 + (1 * ρ 6 + 0) = _; rw [et]; omega)
    have w1 := ysm_u (k := 412) (by decide) (by decide +kernel) m12 (140 * t + k0) (by show 0 + (140 * ρ 6 + (1 * ρ 8 + 0)) = _; rw [et, ek1]; omega)
    have w2 := ysm_u (k := 413) (by decide) (by decide +kernel) m13 (140 * t + k0) (by show 0 + (140 * ρ 6 + (1 * ρ 8 + 0)) = _; rw [et, ek1]; omega)
    rw [sY_v] at v3 v2 v4 v5 v14 vc vk w1 w2
    have v3 : yv h1 440 3 = ρ 2 := v3
    have v2 : yv h1 440 2 = ρ 3 := v2
    have v4 : yv h1 440 4 = ρ 4 := v4
    have v5 : yv h1 440 5 = ρ 5 := v5
    have v14 : yv h1 440 14 = ρ 6 := v14
    have vc : yv h1 410 t = ρ 7 := vc
    have vk : yv h1 411 t = ρ 8 := vk
    have w1 : yv h1 412 (140 * t + k0) = ρ 12 := w1
    have w2 : yv h1 413 (140 * t + k0) = ρ 13 := w2
    have g1 : yG1 t s0 h1 := by
      have q := ysm_gu (a := 1) g1
      rw [sY_v] at q
      have q : yB (yG1 t s0 h1) = ρ 10 := q
      rw [show ρ 10 = 1 by omega] at q
      exact yB_1.mp q
    have g8 : yG8 t s0 (yv h 408) (yv h 409) h1 := by
      have q := ysm_gu (a := 8) g8
      rw [sY_v] at q
      have q : yB (yG8 t s0 (yv h 408) (yv h 409) h1) = ρ 11 := q
      rw [show ρ 11 = 1 by omega] at q
      exact yB_1.mp q
    have hn1 : (yv h1 410 t - (s1 : Int)).toNat = 0 := by rw [vc, hs1]; omega
    have hM2 : sMt yReg (yGv t s1 (yv h1 408) (yv h1 409) (fun _ => 0)) (yρ [ρ 0, ρ 1, ρ 2, ρ 3, ρ 4, ρ 5, ρ 6, ρ 7, ρ 8, 0, 1, 1, ρ 12, ρ 13]) (yρ0 [ρ 0, ρ 1, ρ 2, ρ 3, ρ 4, ρ 5, ρ 6, ρ 7, ρ 8, 0, 1, 1, ρ 12, ρ 13] (1, [])) (sAs yE_clA) loc [] h1 := by
      refine ymk (ya1 r0 ya0) (ya1 (yvr0 l1 l1') (ya1 (yvr0 l2 l2') (ya1 (yvr2 (ysm_p (k := 440) (by decide) (by decide +kernel) (by decide +kernel) (3) ?_ ?_)) (ya1 (yvr2 (ysm_p (k := 440) (by decide) (by decide +kernel) (by decide +kernel) (2) ?_ ?_)) (ya1 (yvr2 (ysm_p (k := 440) (by decide) (by decide +kernel) (by decide +kernel) (4) ?_ ?_)) (ya1 (yvr2 (ysm_p (k := 440) (by decide) (by decide +kernel) (by decide +kernel) (5) ?_ ?_)) (ya1 (yvr2 (ysm_p (k := 440) (by decide) (by decide +kernel) (by decide +kernel) (14) ?_ ?_)) (ya1 (yvr2 (ysm_p (k := 410) (by decide) (by decide +kernel) (by decide +kernel) (t) ?_ ?_)) (ya1 (yvr2 (ysm_p (k := 411) (by decide) (by decide +kernel) (by decide +kernel) (t) ?_ ?_)) (ya1 (yvr2 (ysm_g (a := 0) ?_)) (ya1 (yvr2 (ysm_g (a := 1) ?_)) (ya1 (yvr2 (ysm_g (a := 8) ?_)) (ya1 (yvr2 (ysm_p (k := 412) (by decide) (by decide +kernel) (by decide +kernel) (140 * t + k0) ?_ ?_)) (ya1 (yvr2 (ysm_p (k := 413) (by decide) (by decide +kernel) (by decide +kernel) (140 * t + k0) ?_ ?_)) ya0)))))))))))))) (ya1 ?_ (ya1 ?_ (ya1 ?_ (ya1 ?_ (ya1 ?_ (ya1 ?_ (ya1 ?_ (ya1 ?_ (ya1 ?_ (ya1 ?_ (ya1 ?_ (ya1 ?_ (ya1 ?_ (ya1 ?_ ya0)))))))))))))) (ya1 ?_ (ya1 ?_ (ya1 ?_ (ya1 ?_ (ya1 ?_ (ya1 ?_ (ya1 ?_ (ya1 ?_ ya0)))))))) (ya1 rfl (ya1 rfl (ya1 rfl (ya1 rfl (ya1 rfl (ya1 rfl (ya1 rfl (ya1 rfl (ya1 rfl (ya1 rfl (ya1 rfl (ya1 rfl (ya1 rfl (ya1 rfl ya0)))))))))))))) rfl
      · rfl
      · rw [sY_v]; exact v3
      · rfl
      · rw [sY_v]; exact v2
      · rfl
      · rw [sY_v]; exact v4
      · rfl
      · rw [sY_v]; exact v5
      · rfl
      · rw [sY_v]; exact v14
      · show 0 + (1 * ρ 6 + 0) = _; omega
      · rw [sY_v]; exact vc
      · show 0 + (1 * ρ 6 + 0) = _; omega
      · rw [sY_v]; exact vk
      · rw [sY_v]; show yht h1 (520 * t + s1) (yv h1 410 t - (s1 : Int)).toNat = 0; rw [hn1]; rfl
      · rw [sY_v]; show yB (yG1 t s1 h1) = 1; exact yB_1.mpr ⟨by omega, by omega, by rw [hn1]; exact fun j hj => absurd hj (Nat.not_lt_zero j)⟩
      · rw [sY_v]; show yB (yG8 t s1 (yv h1 408) (yv h1 409) h1) = 1; exact yB_1.mpr ⟨by omega, by omega, fun i _ _ => ⟨rfl, rfl⟩⟩
      · show 0 + (140 * ρ 6 + (1 * ρ 8 + 0)) = _; omega
      · rw [sY_v]; exact w1
      · show 0 + (140 * ρ 6 + (1 * ρ 8 + 0)) = _; omega
      · rw [sY_v]; exact w2
      · exact b0
      · exact b1
      · exact b2
      · exact b3
      · exact b4
      · exact b5
      · exact b6
      · exact b7
      · exact b8
      · exact ⟨Int.le_refl _, Int.le_refl _⟩
      · exact ⟨Int.le_refl _, Int.le_refl _⟩
      · exact ⟨Int.le_refl _, Int.le_refl _⟩
      · exact b12
      · exact b13
      · exact c1
      · exact c2
      · exact c3
      · exact c4
      · exact c5
      · exact c6
      · exact c7
      · exact c8
    refine sseg_okP yComp ySing yCell yR1000 (yGvOk ht) hd (yHs_clA (yGvOk ht) (yHy6 ht)) 500 247 true _ loc [] h1 _ _ yD_clA hM2 hG1 hF1 ?_ ?_
    · intro pc A hA
      cases hA
    · intro r h' hG' hF' hE
      refine yone hE (ya1 ?_ (ya1 ?_ ya0))
      · intro hX
        obtain ⟨ρx, a, ⟨n0, n1, -, n3, n4, -⟩, ⟨d0, d1, d2, -⟩, ⟨m0, m1, m2, m3, m4, -, f1, f8, z1, z2, z3, -⟩, hr⟩ := yexU hX
        have x0 : ρx 0 = ρ 0 := a 0 (by decide)
        have x2 : ρx 2 = ρ 2 := a 2 (by decide)
        have x3 : ρx 3 = ρ 3 := a 3 (by decide)
        have x4 : ρx 4 = ρ 4 := a 4 (by decide)
        have x5 : ρx 5 = ρ 5 := a 5 (by decide)
        have x6 : ρx 6 = ρ 6 := a 6 (by decide)
        have x7 : ρx 7 = ρ 7 := a 7 (by decide)
        have x8 : ρx 8 = ρ 8 := a 8 (by decide)
        have x12 : ρx 12 = ρ 12 := a 12 (by decide)
        have x13 : ρx 13 = ρ 13 := a 13 (by decide)
        have hr : r = none := by
          match r, hr with
          | none, _ => rfl
        have n0 : 4 ≤ ρx 14 ∧ ρx 14 ≤ 240 := n0
        have n1 : 1 ≤ ρx 15 ∧ ρx 15 ≤ 481 := n1
        have n3 : 1 ≤ ρx 17 ∧ ρx 17 ≤ 1 := n3
        have n4 : 1 ≤ ρx 18 ∧ ρx 18 ≤ 1 := n4
        have d0 : 0 + (1 * ρx 2 + (-1 * ρx 14 + 0)) ≤ 0 := d0
        have d1 : 0 + (-1 * ρx 3 + (1 * ρx 14 + 0)) ≤ 0 := d1
        have d2 : -1 + (-2 * ρx 14 + (1 * ρx 15 + 0)) ≤ 0 := d2
        have o3 : yv h' 440 3 = 0 + (1 * ρx 14 + 0) := ysm_u (k := 440) (by decide) (by decide +kernel) m0 3 rfl
        have o4 : yv h' 440 4 = 0 + (1 * ρx 4 + 0) := ysm_u (k := 440) (by decide) (by decide +kernel) m1 4 rfl
        have o5 : yv h' 440 5 = 0 + (1 * ρx 5 + 0) := ysm_u (k := 440) (by decide) (by decide +kernel) m2 5 rfl
        have oc : yv h' 410 t = 0 + (1 * ρx 15 + 0) := ysm_u (k := 410) (by decide) (by decide +kernel) m3 t (by show 0 + (1 * ρx 6 + 0) = _; omega)
        have ok : yv h' 411 t = 1 + (1 * ρx 8 + 0) := ysm_u (k := 411) (by decide) (by decide +kernel) m4 t (by show 0 + (1 * ρx 6 + 0) = _; omega)
        have z1 : yv h' 412 (140 * t + k0) = 0 + (1 * ρx 12 + 0) := ysm_u (k := 412) (by decide) (by decide +kernel) z1 (140 * t + k0) (by show 0 + (140 * ρx 6 + (1 * ρx 8 + 0)) = _; omega)
        have z2 : yv h' 413 (140 * t + k0) = 0 + (1 * ρx 13 + 0) := ysm_u (k := 413) (by decide) (by decide +kernel) z2 (140 * t + k0) (by show 0 + (140 * ρx 6 + (1 * ρx 8 + 0)) = _; omega)
        have z3 : yv h' 414 (140 * t + k0) = 0 + (1 * ρx 15 + 0) := ysm_u (k := 414) (by decide) (by decide +kernel) z3 (140 * t + k0) (by show 0 + (140 * ρx 6 + (1 * ρx 8 + 0)) = _; omega)
        have f1 : yG1 t s1 h' := by
          have q := ysm_gu (a := 1) f1
          have q : yB (yG1 t s1 h') = 0 + (1 * ρx 17 + 0) := q
          rw [show ρx 17 = 1 by omega] at q
          exact yB_1.mp q
        have f8 : yG8 t s1 (yv h1 408) (yv h1 409) h' := by
          have q := ysm_gu (a := 8) f8
          have q : yB (yG8 t s1 (yv h1 408) (yv h1 409) h') = 0 + (1 * ρx 18 + 0) := q
          rw [show ρx 18 = 1 by omega] at q
          exact yB_1.mp q
        obtain ⟨e, he⟩ : ∃ e : Nat, ρx 15 = e := ⟨(ρx 15).toNat, by omega⟩
        have q2 := f1.2.1
        have q3 := f1.2.2
        rw [show (yv h' 410 t - (s1 : Int)).toNat = e - s1 by omega] at q3
        have q4 := g1.2.1
        have q5 := g1.2.2
        rw [show (yv h1 410 t - (s0 : Int)).toNat = s1 - s0 by omega] at q5
        have hs : s0 ≤ s1 := by omega
        have hU : yclU t s0 h h' := fun i i1 i2 => by
          have r1 := f8.2.2 i i1 (by omega)
          have r2 := g8.2.2 i i1 i2
          exact ⟨r1.1.trans r2.1, r1.2.trans r2.2⟩
        refine ⟨hr, hG', hF', hU, Or.inl ⟨by omega, by omega, by omega, by omega, by omega, s1, e, by omega, by omega, by omega, hs, by omega, by omega, by omega, by omega, ?_, q3⟩⟩
        refine ywf0 (h := h1) (fun i hi => ?_) q5
        unfold yco yva
        rw [if_pos (by omega), if_pos (by omega), if_pos (by omega), if_pos (by omega)]
        exact f8.2.2 i (by omega) (by omega)
      · intro hX
        obtain ⟨ρx, a, ⟨n0, n1, n2, n3, n4, -⟩, -, ⟨m0, m1, m2, m3, m4, f8, -⟩, hr⟩ := yexU hX
        have x0 : ρx 0 = ρ 0 := a 0 (by decide)
        have x2 : ρx 2 = ρ 2 := a 2 (by decide)
        have x3 : ρx 3 = ρ 3 := a 3 (by decide)
        have x4 : ρx 4 = ρ 4 := a 4 (by decide)
        have x5 : ρx 5 = ρ 5 := a 5 (by decide)
        have x6 : ρx 6 = ρ 6 := a 6 (by decide)
        have x7 : ρx 7 = ρ 7 := a 7 (by decide)
        have x8 : ρx 8 = ρ 8 := a 8 (by decide)
        have x12 : ρx 12 = ρ 12 := a 12 (by decide)
        have x13 : ρx 13 = ρ 13 := a 13 (by decide)
        have hr : r = none := by
          match r, hr with
          | none, _ => rfl
        have n0 : 2 ≤ ρx 14 ∧ ρx 14 ≤ 246 := n0
        have n1 : 2 ≤ ρx 15 ∧ ρx 15 ≤ 240 := n1
        have n2 : 0 ≤ ρx 16 ∧ ρx 16 ≤ 1 := n2
        have n3 : 0 ≤ ρx 17 ∧ ρx 17 ≤ 493 := n3
        have n4 : 1 ≤ ρx 18 ∧ ρx 18 ≤ 1 := n4
        have o3 : yv h' 440 3 = 0 + (1 * ρx 14 + 0) := ysm_u (k := 440) (by decide) (by decide +kernel) m0 3 rfl
        have o4 : yv h' 440 4 = 0 + (1 * ρx 15 + 0) := ysm_u (k := 440) (by decide) (by decide +kernel) m1 4 rfl
        have o5 : yv h' 440 5 = 0 + (1 * ρx 16 + 0) := ysm_u (k := 440) (by decide) (by decide +kernel) m2 5 rfl
        have oc : yv h' 410 t = 0 + (1 * ρx 17 + 0) := ysm_u (k := 410) (by decide) (by decide +kernel) m3 t (by show 0 + (1 * ρx 6 + 0) = _; omega)
        have ok : yv h' 411 t = 1 + (1 * ρx 8 + 0) := ysm_u (k := 411) (by decide) (by decide +kernel) m4 t (by show 0 + (1 * ρx 6 + 0) = _; omega)
        have f8 : yG8 t s1 (yv h1 408) (yv h1 409) h' := by
          have q := ysm_gu (a := 8) f8
          have q : yB (yG8 t s1 (yv h1 408) (yv h1 409) h') = 0 + (1 * ρx 18 + 0) := q
          rw [show ρx 18 = 1 by omega] at q
          exact yB_1.mp q
        have q4 := g1.2.1
        have hU : yclU t s0 h h' := fun i i1 i2 => by
          have r1 := f8.2.2 i i1 (by omega)
          have r2 := g8.2.2 i i1 i2
          exact ⟨r1.1.trans r2.1, r1.2.trans r2.2⟩
        exact ⟨hr, hG', hF', hU, Or.inr ⟨by omega, by omega, by omega, by omega, by omega⟩⟩
theorem ycl_B {d : Nat} (hd : 34 ≤ d) {h : zH} (hG : sG yReg yG h) {args : List zV} (ar0 : yrf (zent 0 args) 0 (0, 120)) {a0 z : Int} {t s0 k0 : Nat} (ht : t < 5) (e3 : yv h 440 3 = a0) (e2 : yv h 440 2 = z) (e4 : yv h 440 4 = -1) (e5 : yv h 440 5 = 0) (e14 : yv h 440 14 = t) (ec : yv h 410 t = s0) (ek : yv h 411 t = k0) (b0 : 0 ≤ a0 ∧ a0 ≤ 240) (bz : 0 ≤ z ∧ z ≤ 240) (bs : s0 ≤ 480) (bk : k0 ≤ 120) (k1 : a0 ≤ z) (k2 : (s0 : Int) ≤ 2 * a0) (k3 : 2 * (k0 : Int) ≤ a0) {q : Nat} (hq : q < 140 * t + k0) : ∃ m r h', yrun m d 111 args h = some (r, h') ∧ (yv h' 412 q = yv h 412 q ∧ yv h' 413 q = yv h 413 q ∧ yv h' 414 q = yv h 414 q) := by
  have hn0 : (yv h 410 t - (s0 : Int)).toNat = 0 := by rw [ec]; omega
  have hM : sMt yReg (yGv t s0 (yv h 408) (yv h 409) (fun _ => 0)) (yρ [a0, z, (-1), 0, (t : Int), (s0 : Int), (k0 : Int), 0, 1, 1, (q : Int), yv h 412 q, yv h 413 q, yv h 414 q]) (yρ0 [a0, z, (-1), 0, (t : Int), (s0 : Int), (k0 : Int), 0, 1, 1, (q : Int), yv h 412 q, yv h 413 q, yv h 414 q] yQ_clB1.2.1.2.2.2.2.2) (sAs yQ_clB1.2.1) (zent 0 args) [] h := by
    refine ymk (ya1 ar0 ya0) (ya1 (yvr2 (ysm_p (k := 440) (by decide) (by decide +kernel) (by decide +kernel) (3) ?_ ?_)) (ya1 (yvr2 (ysm_p (k := 440) (by decide) (by decide +kernel) (by decide +kernel) (2) ?_ ?_)) (ya1 (yvr2 (ysm_p (k := 440) (by decide) (by decide +kernel) (by decide +kernel) (4) ?_ ?_)) (ya1 (yvr2 (ysm_p (k := 440) (by decide) (by decide +kernel) (by decide +kernel) (5) ?_ ?_)) (ya1 (yvr2 (ysm_p (k := 440) (by decide) (by decide +kernel) (by decide +kernel) (14) ?_ ?_)) (ya1 (yvr2 (ysm_p (k := 410) (by decide) (by decide +kernel) (by decide +kernel) (t) ?_ ?_)) (ya1 (yvr2 (ysm_p (k := 411) (by decide) (by decide +kernel) (by decide +kernel) (t) ?_ ?_)) (ya1 (yvr2 (ysm_g (a := 0) ?_)) (ya1 (yvr2 (ysm_g (a := 1) ?_)) (ya1 (yvr2 (ysm_g (a := 8) ?_)) (ya1 yvr3 (ya1 (yvr2 (ysm_p (k := 412) (by decide) (by decide +kernel) (by decide +kernel) (q) ?_ ?_)) (ya1 (yvr2 (ysm_p (k := 413) (by decide) (by decide +kernel) (by decide +kernel) (q) ?_ ?_)) (ya1 (yvr2 (ysm_p (k := 414) (by decide) (by decide +kernel) (by decide +kernel) (q) ?_ ?_)) ya0)))))))))))))) (ya1 ?_ (ya1 ?_ (ya1 ?_ (ya1 ?_ (ya1 ?_ (ya1 ?_ (ya1 ?_ (ya1 ?_ (ya1 ?_ (ya1 ?_ (ya1 ?_ (ya1 ?_ (ya1 ?_ (ya1 ?_ ya0)))))))))))))) (ya1 ?_ (ya1 ?_ (ya1 ?_ (ya1 ?_ ya0)))) (ya1 rfl (ya1 rfl (ya1 rfl (ya1 rfl (ya1 rfl (ya1 rfl (ya1 rfl (ya1 rfl (ya1 rfl (ya1 rfl (ya1 rfl (ya1 rfl (ya1 rfl (ya1 rfl ya0)))))))))))))) rfl
    · rfl
    · rw [sY_v]; exact e3
    · rfl
    · rw [sY_v]; exact e2
    · rfl
    · rw [sY_v]; exact e4
    · rfl
    · rw [sY_v]; exact e5
    · rfl
    · rw [sY_v]; exact e14
    · show 0 + (1 * (t : Int) + 0) = t; omega
    · rw [sY_v]; exact ec
    · show 0 + (1 * (t : Int) + 0) = t; omega
    · rw [sY_v]; exact ek
    · rw [sY_v]; show yht h (520 * t + s0) (yv h 410 t - (s0 : Int)).toNat = 0; rw [hn0]; rfl
    · rw [sY_v]; show yB (yG1 t s0 h) = 1; exact yB_1.mpr ⟨e14, by rw [ec]; exact Int.le_refl _, by rw [hn0]; exact fun j hj => absurd hj (Nat.not_lt_zero j)⟩
    · rw [sY_v]; show yB (yG8 t s0 (yv h 408) (yv h 409) h) = 1; exact yB_1.mpr ⟨e14, by rw [ec]; exact Int.le_refl _, fun i _ _ => ⟨rfl, rfl⟩⟩
    · show 0 + (1 * (q : Int) + 0) = q; omega
    · rw [sY_v]; rfl
    · show 0 + (1 * (q : Int) + 0) = q; omega
    · rw [sY_v]; rfl
    · show 0 + (1 * (q : Int) + 0) = q; omega
    · rw [sY_v]; rfl
    · show (0 : Int) ≤ a0 ∧ a0 ≤ (240 : Int); omega
    · show (0 : Int) ≤ z ∧ z ≤ (240 : Int); omega
    · show (-1 : Int) ≤ (-1 : Int) ∧ (-1 : Int) ≤ (-1 : Int); omega
    · show (0 : Int) ≤ (0 : Int) ∧ (0 : Int) ≤ (0 : Int); omega
    · show (0 : Int) ≤ (t : Int) ∧ (t : Int) ≤ (4 : Int); omega
    · show (0 : Int) ≤ (s0 : Int) ∧ (s0 : Int) ≤ (480 : Int); omega
    · show (0 : Int) ≤ (k0 : Int) ∧ (k0 : Int) ≤ (120 : Int); omega
    · show (0 : Int) ≤ (0 : Int) ∧ (0 : Int) ≤ (0 : Int); omega
    · show (1 : Int) ≤ (1 : Int) ∧ (1 : Int) ≤ (1 : Int); omega
    · show (1 : Int) ≤ (1 : Int) ∧ (1 : Int) ≤ (1 : Int); omega
    · show (0 : Int) ≤ q ∧ (q : Int) ≤ 699; omega
    · exact si32 (h.1 412 q)
    · exact si32 (h.1 413 q)
    · exact si32 (h.1 414 q)
    · show 0 + (1 * a0 + (-1 * z + 0)) ≤ 0; omega
    · show 0 + (-2 * a0 + (1 * (s0 : Int) + 0)) ≤ 0; omega
    · show 0 + (-1 * a0 + (2 * (k0 : Int) + 0)) ≤ 0; omega
    · show 1 + (-140 * (t : Int) + (-1 * (k0 : Int) + (1 * (q : Int) + 0))) ≤ 0; omega
  refine smeth3 (Q := yQ_clB1) (labs := slab yQ_clB1 yL_clB) (F := 500) (cut := 247) (P := fun r h' => yv h' 412 q = yv h 412 q ∧ yv h' 413 q = yv h 413 q ∧ yv h' 414 q = yv h 414 q) yComp ySing yCell yR1000 (yGvOk ht) (yHs_clB (yGvOk ht) (yHy6 ht)) (yCut yC_clB) (h := h) (ρ0 := yρ0 [a0, z, (-1), 0, (t : Int), (s0 : Int), (k0 : Int), 0, 1, 1, (q : Int), yv h 412 q, yv h 413 q, yv h 414 q] yQ_clB1.2.1.2.2.2.2.2) hd ?_ ?_ _ 0 _ (List.mem_cons_self ..) (zent 0 args) h _ _ (Nat.le_refl _) (fun _ => rfl) hM hG (fun _ _ hne => absurd rfl hne)
  · intro r h' hG' hF' hE
    refine yone hE (ya1 ?_ (ya1 ?_ (ya1 ?_ (ya1 ?_ (ya1 ?_ ya0)))))
    · intro hX
      obtain ⟨ρx, a, -, -, ⟨-, -, -, -, -, -, u0, u1, u2, -⟩, -⟩ := yexU hX
      have xq : ρx 10 = q := a 10 (by decide)
      have y0 : ρx 11 = yv h 412 q := a 11 (by decide)
      have u0 := ysm_u (k := 412) (by decide) (by decide +kernel) u0 q (by show 0 + (1 * ρx 10 + 0) = _; rw [xq]; omega)
      have u0 : yv h' 412 q = 0 + (1 * ρx 11 + 0) := u0
      have y1 : ρx 12 = yv h 413 q := a 12 (by decide)
      have u1 := ysm_u (k := 413) (by decide) (by decide +kernel) u1 q (by show 0 + (1 * ρx 10 + 0) = _; rw [xq]; omega)
      have u1 : yv h' 413 q = 0 + (1 * ρx 12 + 0) := u1
      have y2 : ρx 13 = yv h 414 q := a 13 (by decide)
      have u2 := ysm_u (k := 414) (by decide) (by decide +kernel) u2 q (by show 0 + (1 * ρx 10 + 0) = _; rw [xq]; omega)
      have u2 : yv h' 414 q = 0 + (1 * ρx 13 + 0) := u2
      exact ⟨by omega, by omega, by omega⟩
    · intro hX
      obtain ⟨ρx, a, -, -, ⟨-, -, -, -, -, -, -, -, -, -, -, u0, u1, u2, -⟩, -⟩ := yexU hX
      have xq : ρx 10 = q := a 10 (by decide)
      have y0 : ρx 11 = yv h 412 q := a 11 (by decide)
      have u0 := ysm_u (k := 412) (by decide) (by decide +kernel) u0 q (by show 0 + (1 * ρx 10 + 0) = _; rw [xq]; omega)
      have u0 : yv h' 412 q = 0 + (1 * ρx 11 + 0) := u0
      have y1 : ρx 12 = yv h 413 q := a 12 (by decide)
      have u1 := ysm_u (k := 413) (by decide) (by decide +kernel) u1 q (by show 0 + (1 * ρx 10 + 0) = _; rw [xq]; omega)
      have u1 : yv h' 413 q = 0 + (1 * ρx 12 + 0) := u1
      have y2 : ρx 13 = yv h 414 q := a 13 (by decide)
      have u2 := ysm_u (k := 414) (by decide) (by decide +kernel) u2 q (by show 0 + (1 * ρx 10 + 0) = _; rw [xq]; omega)
      have u2 : yv h' 414 q = 0 + (1 * ρx 13 + 0) := u2
      exact ⟨by omega, by omega, by omega⟩
    · intro hX
      obtain ⟨ρx, a, -, -, ⟨-, -, -, -, -, -, -, -, -, u0, u1, u2, -⟩, -⟩ := yexU hX
      have xq : ρx 10 = q := a 10 (by decide)
      have y0 : ρx 11 = yv h 412 q := a 11 (by decide)
      have u0 := ysm_u (k := 412) (by decide) (by decide +kernel) u0 q (by show 0 + (1 * ρx 10 + 0) = _; rw [xq]; omega)
      have u0 : yv h' 412 q = 0 + (1 * ρx 11 + 0) := u0
      have y1 : ρx 12 = yv h 413 q := a 12 (by decide)
      have u1 := ysm_u (k := 413) (by decide) (by decide +kernel) u1 q (by show 0 + (1 * ρx 10 + 0) = _; rw [xq]; omega)
      have u1 : yv h' 413 q = 0 + (1 * ρx 12 + 0) := u1
      have y2 : ρx 13 = yv h 414 q := a 13 (by decide)
      have u2 := ysm_u (k := 414) (by decide) (by decide +kernel) u2 q (by show 0 + (1 * ρx 10 + 0) = _; rw [xq]; omega)
      have u2 : yv h' 414 q = 0 + (1 * ρx 13 + 0) := u2
      exact ⟨by omega, by omega, by omega⟩
    · intro hX
      obtain ⟨ρx, a, -, -, ⟨-, -, -, -, -, -, -, -, u0, u1, u2, -⟩, -⟩ := yexU hX
      have xq : ρx 10 = q := a 10 (by decide)
      have y0 : ρx 11 = yv h 412 q := a 11 (by decide)
      have u0 := ysm_u (k := 412) (by decide) (by decide +kernel) u0 q (by show 0 + (1 * ρx 10 + 0) = _; rw [xq]; omega)
      have u0 : yv h' 412 q = 0 + (1 * ρx 11 + 0) := u0
      have y1 : ρx 12 = yv h 413 q := a 12 (by decide)
      have u1 := ysm_u (k := 413) (by decide) (by decide +kernel) u1 q (by show 0 + (1 * ρx 10 + 0) = _; rw [xq]; omega)
      have u1 : yv h' 413 q = 0 + (1 * ρx 12 + 0) := u1
      have y2 : ρx 13 = yv h 414 q := a 13 (by decide)
      have u2 := ysm_u (k := 414) (by decide) (by decide +kernel) u2 q (by show 0 + (1 * ρx 10 + 0) = _; rw [xq]; omega)
      have u2 : yv h' 414 q = 0 + (1 * ρx 13 + 0) := u2
      exact ⟨by omega, by omega, by omega⟩
    · intro hX
      obtain ⟨ρx, a, -, -, ⟨-, -, -, -, -, -, -, -, -, u0, u1, u2, -⟩, -⟩ := yexU hX
      have xq : ρx 10 = q := a 10 (by decide)
      have y0 : ρx 11 = yv h 412 q := a 11 (by decide)
      have u0 := ysm_u (k := 412) (by decide) (by decide +kernel) u0 q (by show 0 + (1 * ρx 10 + 0) = _; rw [xq]; omega)
      have u0 : yv h' 412 q = 0 + (1 * ρx 11 + 0) := u0
      have y1 : ρx 12 = yv h 413 q := a 12 (by decide)
      have u1 := ysm_u (k := 413) (by decide) (by decide +kernel) u1 q (by show 0 + (1 * ρx 10 + 0) = _; rw [xq]; omega)
      have u1 : yv h' 413 q = 0 + (1 * ρx 12 + 0) := u1
      have y2 : ρx 13 = yv h 414 q := a 13 (by decide)
      have u2 := ysm_u (k := 414) (by decide) (by decide +kernel) u2 q (by show 0 + (1 * ρx 10 + 0) = _; rw [xq]; omega)
      have u2 : yv h' 414 q = 0 + (1 * ρx 13 + 0) := u2
      exact ⟨by omega, by omega, by omega⟩
  · intro A hA loc h1 ρ ρ1 hρ hM1 hG1 hF1
    rw [yJ_clB] at hA
    have hA := List.mem_singleton.mp hA
    subst hA
    obtain ⟨⟨r0, -⟩, ⟨⟨x1, l1, l1'⟩, ⟨x2, l2, l2'⟩, m2, m3, m4, m5, m6, m7, m8, -, g1, g8, m12, m13, -, u0, u1, u2, -⟩, ⟨b0, b1, b2, b3, b4, b5, b6, b7, b8, b9, b10, b11, b12, b13, b14, b15, b16, b17, b18, -⟩, ⟨c0, c1, c2, c3, c4, c5, c6, c7, c8, c9, -⟩, ⟨p0, p1, p2, p3, p4, p5, p6, p7, p8, p9, p10, -⟩, -⟩ := yun hM1
    have p0 : ρ1 2 = ρ 3 := p0
    have q0 : ρ1 2 = z := hρ 1
    have p1 : ρ1 3 = ρ 4 := p1
    have q1 : ρ1 3 = (-1) := hρ 2
    have p2 : ρ1 4 = ρ 5 := p2
    have q2 : ρ1 4 = 0 := hρ 3
    have p3 : ρ1 5 = ρ 6 := p3
    have q3 : ρ1 5 = (t : Int) := hρ 4
    have p4 : ρ1 7 = ρ 8 := p4
    have q4 : ρ1 7 = (k0 : Int) := hρ 6
    have p5 : ρ1 6 = ρ 12 := p5
    have q5 : ρ1 6 = (s0 : Int) := hρ 5
    have p6 : ρ1 11 = ρ 14 := p6
    have q6 : ρ1 11 = (q : Int) := hρ 10
    have p7 : ρ1 12 = ρ 15 := p7
    have q7 : ρ1 12 = yv h 412 q := hρ 11
    have p8 : ρ1 13 = ρ 16 := p8
    have q8 : ρ1 13 = yv h 413 q := hρ 12
    have p9 : ρ1 14 = ρ 17 := p9
    have q9 : ρ1 14 = yv h 414 q := hρ 13
    have p10 : ρ1 1 = ρ 18 := p10
    have q10 : ρ1 1 = a0 := hρ 0
    have b0 : (1 : Int) ≤ ρ 0 ∧ ρ 0 ≤ (680 : Int) := b0
    have b1 : (1 : Int) ≤ ρ 1 ∧ ρ 1 ≤ (1 : Int) := b1
    have b2 : (4 : Int) ≤ ρ 2 ∧ ρ 2 ≤ (240 : Int) := b2
    have b3 : (4 : Int) ≤ ρ 3 ∧ ρ 3 ≤ (240 : Int) := b3
    have b4 : (-1 : Int) ≤ ρ 4 ∧ ρ 4 ≤ (-1 : Int) := b4
    have b5 : (0 : Int) ≤ ρ 5 ∧ ρ 5 ≤ (0 : Int) := b5
    have b6 : (0 : Int) ≤ ρ 6 ∧ ρ 6 ≤ (4 : Int) := b6
    have b7 : (2 : Int) ≤ ρ 7 ∧ ρ 7 ≤ (479 : Int) := b7
    have b8 : (0 : Int) ≤ ρ 8 ∧ ρ 8 ≤ (120 : Int) := b8
    have b9 : (1 : Int) ≤ ρ 9 ∧ ρ 9 ≤ (1 : Int) := b9
    have b10 : (1 : Int) ≤ ρ 10 ∧ ρ 10 ≤ (1 : Int) := b10
    have b11 : (1 : Int) ≤ ρ 11 ∧ ρ 11 ≤ (1 : Int) := b11
    have b12 : (0 : Int) ≤ ρ 12 ∧ ρ 12 ≤ (480 : Int) := b12
    have b13 : (2 : Int) ≤ ρ 13 ∧ ρ 13 ≤ (479 : Int) := b13
    have l1' : x1.toInt = ρ 0 := l1'
    have l2' : x2.toInt = ρ 1 := l2'
    have c0 : 0 + (-1 * ρ 2 + (1 * ρ 18 + 0)) ≤ 0 := c0
    have c1 : 0 + (1 * ρ 2 + (-1 * ρ 3 + 0)) ≤ 0 := c1
    have c2 : 0 + (-2 * ρ 2 + (1 * ρ 7 + 0)) ≤ 0 := c2
    have c3 : -1 + (-2 * ρ 2 + (1 * ρ 7 + 0)) ≤ 0 := c3
    have c4 : 2 + (-1 * ρ 2 + (2 * ρ 8 + 0)) ≤ 0 := c4
    have c5 : 0 + (1 * ρ 0 + (-140 * ρ 6 + (-1 * ρ 8 + 0))) ≤ 0 := c5
    have c6 : 0 + (-1 * ρ 0 + (140 * ρ 6 + (1 * ρ 8 + 0))) ≤ 0 := c6
    have c7 : 0 + (-1 * ρ 7 + (1 * ρ 13 + 0)) ≤ 0 := c7
    have c8 : 0 + (1 * ρ 7 + (-1 * ρ 13 + 0)) ≤ 0 := c8
    have et : ρ 6 = t := by omega
    have ek1 : ρ 8 = k0 := by omega
    obtain ⟨s1, hs1⟩ : ∃ s1 : Nat, ρ 7 = s1 := ⟨(ρ 7).toNat, by omega⟩
    have v3 := ysm_u (k := 440) (by decide) (by decide +kernel) m2 3 rfl
    have v2 := ysm_u (k := 440) (by decide) (by decide +kernel) m3 2 rfl
    have v4 := ysm_u (k := 440) (by decide) (by decide +kernel) m4 4 rfl
    have v5 := ysm_u (k := 440) (by decide) (by decide +kernel) m5 5 rfl
    have v14 := ysm_u (k := 440) (by decide) (by decide +kernel) m6 14 rfl
    have vc := ysm_u (k := 410) (by decide) (by decide +kernel) m7 t (by show 0 + (1 * ρ 6 + 0) = _; rw [et]; omega)
    have vk := ysm_u (k := 411) (by decide) (by decide +kernel) m8 t (by show 0 + (1 * ρ 6 + 0) = _; rw [et]; omega)
    have w1 := ysm_u (k := 412) (by decide) (by decide +kernel) m12 (140 * t + k0) (by show 0 + (140 * ρ 6 + (1 * ρ 8 + 0)) = _; rw [et, ek1]; omega)
    have w2 := ysm_u (k := 413) (by decide) (by decide +kernel) m13 (140 * t + k0) (by show 0 + (140 * ρ 6 + (1 * ρ 8 + 0)) = _; rw [et, ek1]; omega)
    rw [sY_v] at v3 v2 v4 v5 v14 vc vk w1 w2
    have v3 : yv h1 440 3 = ρ 2 := v3
    have v2 : yv h1 440 2 = ρ 3 := v2
    have v4 : yv h1 440 4 = ρ 4 := v4
    have v5 : yv h1 440 5 = ρ 5 := v5
    have v14 : yv h1 440 14 = ρ 6 := v14
    have vc : yv h1 410 t = ρ 7 := vc
    have vk : yv h1 411 t = ρ 8 := vk
    have w1 : yv h1 412 (140 * t + k0) = ρ 12 := w1
    have w2 : yv h1 413 (140 * t + k0) = ρ 13 := w2
    have u0 := ysm_u (k := 412) (by decide) (by decide +kernel) u0 q (by show 0 + (1 * ρ 14 + 0) = _; omega)
    rw [sY_v] at u0
    have u0 : yv h1 412 q = ρ 15 := u0
    have u1 := ysm_u (k := 413) (by decide) (by decide +kernel) u1 q (by show 0 + (1 * ρ 14 + 0) = _; omega)
    rw [sY_v] at u1
    have u1 : yv h1 413 q = ρ 16 := u1
    have u2 := ysm_u (k := 414) (by decide) (by decide +kernel) u2 q (by show 0 + (1 * ρ 14 + 0) = _; omega)
    rw [sY_v] at u2
    have u2 : yv h1 414 q = ρ 17 := u2
    have hn1 : (yv h1 410 t - (s1 : Int)).toNat = 0 := by rw [vc, hs1]; omega
    have hM2 : sMt yReg (yGv t s1 (yv h1 408) (yv h1 409) (fun _ => 0)) (yρ [ρ 0, ρ 1, ρ 2, ρ 3, ρ 4, ρ 5, ρ 6, ρ 7, ρ 8, 0, 1, 1, ρ 12, ρ 13, ρ 14, ρ 15, ρ 16, ρ 17]) (yρ0 [ρ 0, ρ 1, ρ 2, ρ 3, ρ 4, ρ 5, ρ 6, ρ 7, ρ 8, 0, 1, 1, ρ 12, ρ 13, ρ 14, ρ 15, ρ 16, ρ 17] (1, [])) (sAs yE_clB) loc [] h1 := by
      refine ymk (ya1 r0 ya0) (ya1 (yvr0 l1 l1') (ya1 (yvr0 l2 l2') (ya1 (yvr2 (ysm_p (k := 440) (by decide) (by decide +kernel) (by decide +kernel) (3) ?_ ?_)) (ya1 (yvr2 (ysm_p (k := 440) (by decide) (by decide +kernel) (by decide +kernel) (2) ?_ ?_)) (ya1 (yvr2 (ysm_p (k := 440) (by decide) (by decide +kernel) (by decide +kernel) (4) ?_ ?_)) (ya1 (yvr2 (ysm_p (k := 440) (by decide) (by decide +kernel) (by decide +kernel) (5) ?_ ?_)) (ya1 (yvr2 (ysm_p (k := 440) (by decide) (by decide +kernel) (by decide +kernel) (14) ?_ ?_)) (ya1 (yvr2 (ysm_p (k := 410) (by decide) (by decide +kernel) (by decide +kernel) (t) ?_ ?_)) (ya1 (yvr2 (ysm_p (k := 411) (by decide) (by decide +kernel) (by decide +kernel) (t) ?_ ?_)) (ya1 (yvr2 (ysm_g (a := 0) ?_)) (ya1 (yvr2 (ysm_g (a := 1) ?_)) (ya1 (yvr2 (ysm_g (a := 8) ?_)) (ya1 (yvr2 (ysm_p (k := 412) (by decide) (by decide +kernel) (by decide +kernel) (140 * t + k0) ?_ ?_)) (ya1 (yvr2 (ysm_p (k := 413) (by decide) (by decide +kernel) (by decide +kernel) (140 * t + k0) ?_ ?_)) (ya1 yvr3 (ya1 (yvr2 (ysm_p (k := 412) (by decide) (by decide +kernel) (by decide +kernel) (q) ?_ ?_)) (ya1 (yvr2 (ysm_p (k := 413) (by decide) (by decide +kernel) (by decide +kernel) (q) ?_ ?_)) (ya1 (yvr2 (ysm_p (k := 414) (by decide) (by decide +kernel) (by decide +kernel) (q) ?_ ?_)) ya0)))))))))))))))))) (ya1 ?_ (ya1 ?_ (ya1 ?_ (ya1 ?_ (ya1 ?_ (ya1 ?_ (ya1 ?_ (ya1 ?_ (ya1 ?_ (ya1 ?_ (ya1 ?_ (ya1 ?_ (ya1 ?_ (ya1 ?_ (ya1 ?_ (ya1 ?_ (ya1 ?_ (ya1 ?_ ya0)))))))))))))))))) (ya1 ?_ (ya1 ?_ (ya1 ?_ (ya1 ?_ (ya1 ?_ (ya1 ?_ (ya1 ?_ (ya1 ?_ (ya1 ?_ ya0))))))))) (ya1 rfl (ya1 rfl (ya1 rfl (ya1 rfl (ya1 rfl (ya1 rfl (ya1 rfl (ya1 rfl (ya1 rfl (ya1 rfl (ya1 rfl (ya1 rfl (ya1 rfl (ya1 rfl (ya1 rfl (ya1 rfl (ya1 rfl (ya1 rfl ya0)))))))))))))))))) rfl
      · rfl
      · rw [sY_v]; exact v3
      · rfl
      · rw [sY_v]; exact v2
      · rfl
      · rw [sY_v]; exact v4
      · rfl
      · rw [sY_v]; exact v5
      · rfl
      · rw [sY_v]; exact v14
      · show 0 + (1 * ρ 6 + 0) = _; omega
      · rw [sY_v]; exact vc
      · show 0 + (1 * ρ 6 + 0) = _; omega
      · rw [sY_v]; exact vk
      · rw [sY_v]; show yht h1 (520 * t + s1) (yv h1 410 t - (s1 : Int)).toNat = 0; rw [hn1]; rfl
      · rw [sY_v]; show yB (yG1 t s1 h1) = 1; exact yB_1.mpr ⟨by omega, by omega, by rw [hn1]; exact fun j hj => absurd hj (Nat.not_lt_zero j)⟩
      · rw [sY_v]; show yB (yG8 t s1 (yv h1 408) (yv h1 409) h1) = 1; exact yB_1.mpr ⟨by omega, by omega, fun i _ _ => ⟨rfl, rfl⟩⟩
      · show 0 + (140 * ρ 6 + (1 * ρ 8 + 0)) = _; omega
      · rw [sY_v]; exact w1
      · show 0 + (140 * ρ 6 + (1 * ρ 8 + 0)) = _; omega
      · rw [sY_v]; exact w2
      · show 0 + (1 * ρ 14 + 0) = _; omega
      · rw [sY_v]; exact u0
      · show 0 + (1 * ρ 14 + 0) = _; omega
      · rw [sY_v]; exact u1
      · show 0 + (1 * ρ 14 + 0) = _; omega
      · rw [sY_v]; exact u2
      · exact b0
      · exact b1
      · exact b2
      · exact b3
      · exact b4
      · exact b5
      · exact b6
      · exact b7
      · exact b8
      · exact ⟨Int.le_refl _, Int.le_refl _⟩
      · exact ⟨Int.le_refl _, Int.le_refl _⟩
      · exact ⟨Int.le_refl _, Int.le_refl _⟩
      · exact b12
      · exact b13
      · exact b14
      · exact b15
      · exact b16
      · exact b17
      · exact c1
      · exact c2
      · exact c3
      · exact c4
      · exact c5
      · exact c6
      · exact c7
      · exact c8
      · exact c9
    refine sseg_okP yComp ySing yCell yR1000 (yGvOk ht) hd (yHs_clB (yGvOk ht) (yHy6 ht)) 500 247 true _ loc [] h1 _ _ yD_clB hM2 hG1 hF1 ?_ ?_
    · intro pc A hA
      cases hA
    · intro r h' hG' hF' hE
      refine yone hE (ya1 ?_ (ya1 ?_ ya0))
      · intro hX
        obtain ⟨ρx, a, -, -, ⟨-, -, -, -, -, -, -, -, -, -, -, u0, u1, u2, -⟩, -⟩ := yexU hX
        have xq : ρx 14 = q := (a 14 (by decide)).trans (show ρ 14 = q by omega)
        have y0 : ρx 15 = yv h 412 q := (a 15 (by decide)).trans (show ρ 15 = yv h 412 q by omega)
        have u0 := ysm_u (k := 412) (by decide) (by decide +kernel) u0 q (by show 0 + (1 * ρx 14 + 0) = _; rw [xq]; omega)
        have u0 : yv h' 412 q = 0 + (1 * ρx 15 + 0) := u0
        have y1 : ρx 16 = yv h 413 q := (a 16 (by decide)).trans (show ρ 16 = yv h 413 q by omega)
        have u1 := ysm_u (k := 413) (by decide) (by decide +kernel) u1 q (by show 0 + (1 * ρx 14 + 0) = _; rw [xq]; omega)
        have u1 : yv h' 413 q = 0 + (1 * ρx 16 + 0) := u1
        have y2 : ρx 17 = yv h 414 q := (a 17 (by decide)).trans (show ρ 17 = yv h 414 q by omega)
        have u2 := ysm_u (k := 414) (by decide) (by decide +kernel) u2 q (by show 0 + (1 * ρx 14 + 0) = _; rw [xq]; omega)
        have u2 : yv h' 414 q = 0 + (1 * ρx 17 + 0) := u2
        exact ⟨by omega, by omega, by omega⟩
      · intro hX
        obtain ⟨ρx, a, -, -, ⟨-, -, -, -, -, -, u0, u1, u2, -⟩, -⟩ := yexU hX
        have xq : ρx 14 = q := (a 14 (by decide)).trans (show ρ 14 = q by omega)
        have y0 : ρx 15 = yv h 412 q := (a 15 (by decide)).trans (show ρ 15 = yv h 412 q by omega)
        have u0 := ysm_u (k := 412) (by decide) (by decide +kernel) u0 q (by show 0 + (1 * ρx 14 + 0) = _; rw [xq]; omega)
        have u0 : yv h' 412 q = 0 + (1 * ρx 15 + 0) := u0
        have y1 : ρx 16 = yv h 413 q := (a 16 (by decide)).trans (show ρ 16 = yv h 413 q by omega)
        have u1 := ysm_u (k := 413) (by decide) (by decide +kernel) u1 q (by show 0 + (1 * ρx 14 + 0) = _; rw [xq]; omega)
        have u1 : yv h' 413 q = 0 + (1 * ρx 16 + 0) := u1
        have y2 : ρx 17 = yv h 414 q := (a 17 (by decide)).trans (show ρ 17 = yv h 414 q by omega)
        have u2 := ysm_u (k := 414) (by decide) (by decide +kernel) u2 q (by show 0 + (1 * ρx 14 + 0) = _; rw [xq]; omega)
        have u2 : yv h' 414 q = 0 + (1 * ρx 17 + 0) := u2
        exact ⟨by omega, by omega, by omega⟩
theorem ycl_C {d : Nat} (hd : 34 ≤ d) {h : zH} (hG : sG yReg yG h) {args : List zV} (ar0 : yrf (zent 0 args) 0 (0, 120)) {a0 z : Int} {t s0 k0 : Nat} (ht : t < 5) (e3 : yv h 440 3 = a0) (e2 : yv h 440 2 = z) (e4 : yv h 440 4 = -1) (e5 : yv h 440 5 = 0) (e14 : yv h 440 14 = t) (ec : yv h 410 t = s0) (ek : yv h 411 t = k0) (b0 : 0 ≤ a0 ∧ a0 ≤ 240) (bz : 0 ≤ z ∧ z ≤ 240) (bs : s0 ≤ 480) (bk : k0 ≤ 120) (k1 : a0 ≤ z) (k2 : (s0 : Int) ≤ 2 * a0) (k3 : 2 * (k0 : Int) ≤ a0) {q : Nat} (hq : q < t) : ∃ m r h', yrun m d 111 args h = some (r, h') ∧ (yv h' 411 q = yv h 411 q) := by
  have hn0 : (yv h 410 t - (s0 : Int)).toNat = 0 := by rw [ec]; omega
  have hM : sMt yReg (yGv t s0 (yv h 408) (yv h 409) (fun _ => 0)) (yρ [a0, z, (-1), 0, (t : Int), (s0 : Int), (k0 : Int), 0, 1, 1, (q : Int), yv h 411 q]) (yρ0 [a0, z, (-1), 0, (t : Int), (s0 : Int), (k0 : Int), 0, 1, 1, (q : Int), yv h 411 q] yQ_clC1.2.1.2.2.2.2.2) (sAs yQ_clC1.2.1) (zent 0 args) [] h := by
    refine ymk (ya1 ar0 ya0) (ya1 (yvr2 (ysm_p (k := 440) (by decide) (by decide +kernel) (by decide +kernel) (3) ?_ ?_)) (ya1 (yvr2 (ysm_p (k := 440) (by decide) (by decide +kernel) (by decide +kernel) (2) ?_ ?_)) (ya1 (yvr2 (ysm_p (k := 440) (by decide) (by decide +kernel) (by decide +kernel) (4) ?_ ?_)) (ya1 (yvr2 (ysm_p (k := 440) (by decide) (by decide +kernel) (by decide +kernel) (5) ?_ ?_)) (ya1 (yvr2 (ysm_p (k := 440) (by decide) (by decide +kernel) (by decide +kernel) (14) ?_ ?_)) (ya1 (yvr2 (ysm_p (k := 410) (by decide) (by decide +kernel) (by decide +kernel) (t) ?_ ?_)) (ya1 (yvr2 (ysm_p (k := 411) (by decide) (by decide +kernel) (by decide +kernel) (t) ?_ ?_)) (ya1 (yvr2 (ysm_g (a := 0) ?_)) (ya1 (yvr2 (ysm_g (a := 1) ?_)) (ya1 (yvr2 (ysm_g (a := 8) ?_)) (ya1 yvr3 (ya1 (yvr2 (ysm_p (k := 411) (by decide) (by decide +kernel) (by decide +kernel) (q) ?_ ?_)) ya0)))))))))))) (ya1 ?_ (ya1 ?_ (ya1 ?_ (ya1 ?_ (ya1 ?_ (ya1 ?_ (ya1 ?_ (ya1 ?_ (ya1 ?_ (ya1 ?_ (ya1 ?_ (ya1 ?_ ya0)))))))))))) (ya1 ?_ (ya1 ?_ (ya1 ?_ (ya1 ?_ ya0)))) (ya1 rfl (ya1 rfl (ya1 rfl (ya1 rfl (ya1 rfl (ya1 rfl (ya1 rfl (ya1 rfl (ya1 rfl (ya1 rfl (ya1 rfl (ya1 rfl ya0)))))))))))) rfl
    · rfl
    · rw [sY_v]; exact e3
    · rfl
    · rw [sY_v]; exact e2
    · rfl
    · rw [sY_v]; exact e4
    · rfl
    · rw [sY_v]; exact e5
    · rfl
    · rw [sY_v]; exact e14
    · show 0 + (1 * (t : Int) + 0) = t; omega
    · rw [sY_v]; exact ec
    · show 0 + (1 * (t : Int) + 0) = t; omega
    · rw [sY_v]; exact ek
    · rw [sY_v]; show yht h (520 * t + s0) (yv h 410 t - (s0 : Int)).toNat = 0; rw [hn0]; rfl
    · rw [sY_v]; show yB (yG1 t s0 h) = 1; exact yB_1.mpr ⟨e14, by rw [ec]; exact Int.le_refl _, by rw [hn0]; exact fun j hj => absurd hj (Nat.not_lt_zero j)⟩
    · rw [sY_v]; show yB (yG8 t s0 (yv h 408) (yv h 409) h) = 1; exact yB_1.mpr ⟨e14, by rw [ec]; exact Int.le_refl _, fun i _ _ => ⟨rfl, rfl⟩⟩
    · show 0 + (1 * (q : Int) + 0) = q; omega
    · rw [sY_v]; rfl
    · show (0 : Int) ≤ a0 ∧ a0 ≤ (240 : Int); omega
    · show (0 : Int) ≤ z ∧ z ≤ (240 : Int); omega
    · show (-1 : Int) ≤ (-1 : Int) ∧ (-1 : Int) ≤ (-1 : Int); omega
    · show (0 : Int) ≤ (0 : Int) ∧ (0 : Int) ≤ (0 : Int); omega
    · show (0 : Int) ≤ (t : Int) ∧ (t : Int) ≤ (4 : Int); omega
    · show (0 : Int) ≤ (s0 : Int) ∧ (s0 : Int) ≤ (480 : Int); omega
    · show (0 : Int) ≤ (k0 : Int) ∧ (k0 : Int) ≤ (120 : Int); omega
    · show (0 : Int) ≤ (0 : Int) ∧ (0 : Int) ≤ (0 : Int); omega
    · show (1 : Int) ≤ (1 : Int) ∧ (1 : Int) ≤ (1 : Int); omega
    · show (1 : Int) ≤ (1 : Int) ∧ (1 : Int) ≤ (1 : Int); omega
    · show (0 : Int) ≤ q ∧ (q : Int) ≤ 4; omega
    · exact si32 (h.1 411 q)
    · show 0 + (1 * a0 + (-1 * z + 0)) ≤ 0; omega
    · show 0 + (-2 * a0 + (1 * (s0 : Int) + 0)) ≤ 0; omega
    · show 0 + (-1 * a0 + (2 * (k0 : Int) + 0)) ≤ 0; omega
    · show 1 + (-1 * (t : Int) + (1 * (q : Int) + 0)) ≤ 0; omega
  refine smeth3 (Q := yQ_clC1) (labs := slab yQ_clC1 yL_clC) (F := 500) (cut := 247) (P := fun r h' => yv h' 411 q = yv h 411 q) yComp ySing yCell yR1000 (yGvOk ht) (yHs_clC (yGvOk ht) (yHy6 ht)) (yCut yC_clC) (h := h) (ρ0 := yρ0 [a0, z, (-1), 0, (t : Int), (s0 : Int), (k0 : Int), 0, 1, 1, (q : Int), yv h 411 q] yQ_clC1.2.1.2.2.2.2.2) hd ?_ ?_ _ 0 _ (List.mem_cons_self ..) (zent 0 args) h _ _ (Nat.le_refl _) (fun _ => rfl) hM hG (fun _ _ hne => absurd rfl hne)
  · intro r h' hG' hF' hE
    refine yone hE (ya1 ?_ (ya1 ?_ (ya1 ?_ (ya1 ?_ (ya1 ?_ ya0)))))
    · intro hX
      obtain ⟨ρx, a, -, -, ⟨-, -, -, -, -, -, u0, -⟩, -⟩ := yexU hX
      have xq : ρx 10 = q := a 10 (by decide)
      have y0 : ρx 11 = yv h 411 q := a 11 (by decide)
      have u0 := ysm_u (k := 411) (by decide) (by decide +kernel) u0 q (by show 0 + (1 * ρx 10 + 0) = _; rw [xq]; omega)
      have u0 : yv h' 411 q = 0 + (1 * ρx 11 + 0) := u0
      exact by omega
    · intro hX
      obtain ⟨ρx, a, -, -, ⟨-, -, -, -, -, -, -, -, -, -, -, u0, -⟩, -⟩ := yexU hX
      have xq : ρx 10 = q := a 10 (by decide)
      have y0 : ρx 11 = yv h 411 q := a 11 (by decide)
      have u0 := ysm_u (k := 411) (by decide) (by decide +kernel) u0 q (by show 0 + (1 * ρx 10 + 0) = _; rw [xq]; omega)
      have u0 : yv h' 411 q = 0 + (1 * ρx 11 + 0) := u0
      exact by omega
    · intro hX
      obtain ⟨ρx, a, -, -, ⟨-, -, -, -, -, -, -, -, -, u0, -⟩, -⟩ := yexU hX
      have xq : ρx 10 = q := a 10 (by decide)
      have y0 : ρx 11 = yv h 411 q := a 11 (by decide)
      have u0 := ysm_u (k := 411) (by decide) (by decide +kernel) u0 q (by show 0 + (1 * ρx 10 + 0) = _; rw [xq]; omega)
      have u0 : yv h' 411 q = 0 + (1 * ρx 11 + 0) := u0
      exact by omega
    · intro hX
      obtain ⟨ρx, a, -, -, ⟨-, -, -, -, -, -, -, -, u0, -⟩, -⟩ := yexU hX
      have xq : ρx 10 = q := a 10 (by decide)
      have y0 : ρx 11 = yv h 411 q := a 11 (by decide)
      have u0 := ysm_u (k := 411) (by decide) (by decide +kernel) u0 q (by show 0 + (1 * ρx 10 + 0) = _; rw [xq]; omega)
      have u0 : yv h' 411 q = 0 + (1 * ρx 11 + 0) := u0
      exact by omega
    · intro hX
      obtain ⟨ρx, a, -, -, ⟨-, -, -, -, -, -, -, -, -, u0, -⟩, -⟩ := yexU hX
      have xq : ρx 10 = q := a 10 (by decide)
      have y0 : ρx 11 = yv h 411 q := a 11 (by decide)
      have u0 := ysm_u (k := 411) (by decide) (by decide +kernel) u0 q (by show 0 + (1 * ρx 10 + 0) = _; rw [xq]; omega)
      have u0 : yv h' 411 q = 0 + (1 * ρx 11 + 0) := u0
      exact by omega
  · intro A hA loc h1 ρ ρ1 hρ hM1 hG1 hF1
    rw [yJ_clC] at hA
    have hA := List.mem_singleton.mp hA
    subst hA
    obtain ⟨⟨r0, -⟩, ⟨⟨x1, l1, l1'⟩, ⟨x2, l2, l2'⟩, m2, m3, m4, m5, m6, m7, m8, -, g1, g8, m12, m13, -, u0, -⟩, ⟨b0, b1, b2, b3, b4, b5, b6, b7, b8, b9, b10, b11, b12, b13, b14, b15, b16, -⟩, ⟨c0, c1, c2, c3, c4, c5, c6, c7, c8, c9, -⟩, ⟨p0, p1, p2, p3, p4, p5, p6, p7, p8, -⟩, -⟩ := yun hM1
    have p0 : ρ1 2 = ρ 3 := p0
    have q0 : ρ1 2 = z := hρ 1
    have p1 : ρ1 3 = ρ 4 := p1
    have q1 : ρ1 3 = (-1) := hρ 2
    have p2 : ρ1 4 = ρ 5 := p2
    have q2 : ρ1 4 = 0 := hρ 3
    have p3 : ρ1 5 = ρ 6 := p3
    have q3 : ρ1 5 = (t : Int) := hρ 4
    have p4 : ρ1 7 = ρ 8 := p4
    have q4 : ρ1 7 = (k0 : Int) := hρ 6
    have p5 : ρ1 6 = ρ 12 := p5
    have q5 : ρ1 6 = (s0 : Int) := hρ 5
    have p6 : ρ1 11 = ρ 14 := p6
    have q6 : ρ1 11 = (q : Int) := hρ 10
    have p7 : ρ1 12 = ρ 15 := p7
    have q7 : ρ1 12 = yv h 411 q := hρ 11
    have p8 : ρ1 1 = ρ 16 := p8
    have q8 : ρ1 1 = a0 := hρ 0
    have b0 : (140 : Int) ≤ ρ 0 ∧ ρ 0 ≤ (680 : Int) := b0
    have b1 : (1 : Int) ≤ ρ 1 ∧ ρ 1 ≤ (1 : Int) := b1
    have b2 : (4 : Int) ≤ ρ 2 ∧ ρ 2 ≤ (240 : Int) := b2
    have b3 : (4 : Int) ≤ ρ 3 ∧ ρ 3 ≤ (240 : Int) := b3
    have b4 : (-1 : Int) ≤ ρ 4 ∧ ρ 4 ≤ (-1 : Int) := b4
    have b5 : (0 : Int) ≤ ρ 5 ∧ ρ 5 ≤ (0 : Int) := b5
    have b6 : (1 : Int) ≤ ρ 6 ∧ ρ 6 ≤ (4 : Int) := b6
    have b7 : (2 : Int) ≤ ρ 7 ∧ ρ 7 ≤ (479 : Int) := b7
    have b8 : (0 : Int) ≤ ρ 8 ∧ ρ 8 ≤ (120 : Int) := b8
    have b9 : (1 : Int) ≤ ρ 9 ∧ ρ 9 ≤ (1 : Int) := b9
    have b10 : (1 : Int) ≤ ρ 10 ∧ ρ 10 ≤ (1 : Int) := b10
    have b11 : (1 : Int) ≤ ρ 11 ∧ ρ 11 ≤ (1 : Int) := b11
    have b12 : (0 : Int) ≤ ρ 12 ∧ ρ 12 ≤ (480 : Int) := b12
    have b13 : (2 : Int) ≤ ρ 13 ∧ ρ 13 ≤ (479 : Int) := b13
    have l1' : x1.toInt = ρ 0 := l1'
    have l2' : x2.toInt = ρ 1 := l2'
    have c0 : 0 + (-1 * ρ 2 + (1 * ρ 16 + 0)) ≤ 0 := c0
    have c1 : 0 + (1 * ρ 2 + (-1 * ρ 3 + 0)) ≤ 0 := c1
    have c2 : 0 + (-2 * ρ 2 + (1 * ρ 7 + 0)) ≤ 0 := c2
    have c3 : -1 + (-2 * ρ 2 + (1 * ρ 7 + 0)) ≤ 0 := c3
    have c4 : 2 + (-1 * ρ 2 + (2 * ρ 8 + 0)) ≤ 0 := c4
    have c5 : 0 + (1 * ρ 0 + (-140 * ρ 6 + (-1 * ρ 8 + 0))) ≤ 0 := c5
    have c6 : 0 + (-1 * ρ 0 + (140 * ρ 6 + (1 * ρ 8 + 0))) ≤ 0 := c6
    have c7 : 0 + (-1 * ρ 7 + (1 * ρ 13 + 0)) ≤ 0 := c7
    have c8 : 0 + (1 * ρ 7 + (-1 * ρ 13 + 0)) ≤ 0 := c8
    have et : ρ 6 = t := by omega
    have ek1 : ρ 8 = k0 := by omega
    obtain ⟨s1, hs1⟩ : ∃ s1 : Nat, ρ 7 = s1 := ⟨(ρ 7).toNat, by omega⟩
    have v3 := ysm_u (k := 440) (by decide) (by decide +kernel) m2 3 rfl
    have v2 := ysm_u (k := 440) (by decide) (by decide +kernel) m3 2 rfl
    have v4 := ysm_u (k := 440) (by decide) (by decide +kernel) m4 4 rfl
    have v5 := ysm_u (k := 440) (by decide) (by decide +kernel) m5 5 rfl
    have v14 := ysm_u (k := 440) (by decide) (by decide +kernel) m6 14 rfl
    have vc := ysm_u (k := 410) (by decide) (by decide +kernel) m7 t (by show 0 + (1 * ρ 6 + 0) = _; rw [et]; omega)
    have vk := ysm_u (k := 411) (by decide) (by decide +kernel) m8 t (by show 0 + (1 * ρ 6 + 0) = _; rw [et]; omega)
    have w1 := ysm_u (k := 412) (by decide) (by decide +kernel) m12 (140 * t + k0) (by show 0 + (140 * ρ 6 + (1 * ρ 8 + 0)) = _; rw [et, ek1]; omega)
    have w2 := ysm_u (k := 413) (by decide) (by decide +kernel) m13 (140 * t + k0) (by show 0 + (140 * ρ 6 + (1 * ρ 8 + 0)) = _; rw [et, ek1]; omega)
    rw [sY_v] at v3 v2 v4 v5 v14 vc vk w1 w2
    have v3 : yv h1 440 3 = ρ 2 := v3
    have v2 : yv h1 440 2 = ρ 3 := v2
    have v4 : yv h1 440 4 = ρ 4 := v4
    have v5 : yv h1 440 5 = ρ 5 := v5
    have v14 : yv h1 440 14 = ρ 6 := v14
    have vc : yv h1 410 t = ρ 7 := vc
    have vk : yv h1 411 t = ρ 8 := vk
    have w1 : yv h1 412 (140 * t + k0) = ρ 12 := w1
    have w2 : yv h1 413 (140 * t + k0) = ρ 13 := w2
    have u0 := ysm_u (k := 411) (by decide) (by decide +kernel) u0 q (by show 0 + (1 * ρ 14 + 0) = _; omega)
    rw [sY_v] at u0
    have u0 : yv h1 411 q = ρ 15 := u0
    have hn1 : (yv h1 410 t - (s1 : Int)).toNat = 0 := by rw [vc, hs1]; omega
    have hM2 : sMt yReg (yGv t s1 (yv h1 408) (yv h1 409) (fun _ => 0)) (yρ [ρ 0, ρ 1, ρ 2, ρ 3, ρ 4, ρ 5, ρ 6, ρ 7, ρ 8, 0, 1, 1, ρ 12, ρ 13, ρ 14, ρ 15]) (yρ0 [ρ 0, ρ 1, ρ 2, ρ 3, ρ 4, ρ 5, ρ 6, ρ 7, ρ 8, 0, 1, 1, ρ 12, ρ 13, ρ 14, ρ 15] (1, [])) (sAs yE_clC) loc [] h1 := by
      refine ymk (ya1 r0 ya0) (ya1 (yvr0 l1 l1') (ya1 (yvr0 l2 l2') (ya1 (yvr2 (ysm_p (k := 440) (by decide) (by decide +kernel) (by decide +kernel) (3) ?_ ?_)) (ya1 (yvr2 (ysm_p (k := 440) (by decide) (by decide +kernel) (by decide +kernel) (2) ?_ ?_)) (ya1 (yvr2 (ysm_p (k := 440) (by decide) (by decide +kernel) (by decide +kernel) (4) ?_ ?_)) (ya1 (yvr2 (ysm_p (k := 440) (by decide) (by decide +kernel) (by decide +kernel) (5) ?_ ?_)) (ya1 (yvr2 (ysm_p (k := 440) (by decide) (by decide +kernel) (by decide +kernel) (14) ?_ ?_)) (ya1 (yvr2 (ysm_p (k := 410) (by decide) (by decide +kernel) (by decide +kernel) (t) ?_ ?_)) (ya1 (yvr2 (ysm_p (k := 411) (by decide) (by decide +kernel) (by decide +kernel) (t) ?_ ?_)) (ya1 (yvr2 (ysm_g (a := 0) ?_)) (ya1 (yvr2 (ysm_g (a := 1) ?_)) (ya1 (yvr2 (ysm_g (a := 8) ?_)) (ya1 (yvr2 (ysm_p (k := 412) (by decide) (by decide +kernel) (by decide +kernel) (140 * t + k0) ?_ ?_)) (ya1 (yvr2 (ysm_p (k := 413) (by decide) (by decide +kernel) (by decide +kernel) (140 * t + k0) ?_ ?_)) (ya1 yvr3 (ya1 (yvr2 (ysm_p (k := 411) (by decide) (by decide +kernel) (by decide +kernel) (q) ?_ ?_)) ya0)))))))))))))))) (ya1 ?_ (ya1 ?_ (ya1 ?_ (ya1 ?_ (ya1 ?_ (ya1 ?_ (ya1 ?_ (ya1 ?_ (ya1 ?_ (ya1 ?_ (ya1 ?_ (ya1 ?_ (ya1 ?_ (ya1 ?_ (ya1 ?_ (ya1 ?_ ya0)))))))))))))))) (ya1 ?_ (ya1 ?_ (ya1 ?_ (ya1 ?_ (ya1 ?_ (ya1 ?_ (ya1 ?_ (ya1 ?_ (ya1 ?_ ya0))))))))) (ya1 rfl (ya1 rfl (ya1 rfl (ya1 rfl (ya1 rfl (ya1 rfl (ya1 rfl (ya1 rfl (ya1 rfl (ya1 rfl (ya1 rfl (ya1 rfl (ya1 rfl (ya1 rfl (ya1 rfl (ya1 rfl ya0)))))))))))))))) rfl
      · rfl
      · rw [sY_v]; exact v3
      · rfl
      · rw [sY_v]; exact v2
      · rfl
      · rw [sY_v]; exact v4
      · rfl
      · rw [sY_v]; exact v5
      · rfl
      · rw [sY_v]; exact v14
      · show 0 + (1 * ρ 6 + 0) = _; omega
      · rw [sY_v]; exact vc
      · show 0 + (1 * ρ 6 + 0) = _; omega
      · rw [sY_v]; exact vk
      · rw [sY_v]; show yht h1 (520 * t + s1) (yv h1 410 t - (s1 : Int)).toNat = 0; rw [hn1]; rfl
      · rw [sY_v]; show yB (yG1 t s1 h1) = 1; exact yB_1.mpr ⟨by omega, by omega, by rw [hn1]; exact fun j hj => absurd hj (Nat.not_lt_zero j)⟩
      · rw [sY_v]; show yB (yG8 t s1 (yv h1 408) (yv h1 409) h1) = 1; exact yB_1.mpr ⟨by omega, by omega, fun i _ _ => ⟨rfl, rfl⟩⟩
      · show 0 + (140 * ρ 6 + (1 * ρ 8 + 0)) = _; omega
      · rw [sY_v]; exact w1
      · show 0 + (140 * ρ 6 + (1 * ρ 8 + 0)) = _; omega
      · rw [sY_v]; exact w2
      · show 0 + (1 * ρ 14 + 0) = _; omega
      · rw [sY_v]; exact u0
      · exact b0
      · exact b1
      · exact b2
      · exact b3
      · exact b4
      · exact b5
      · exact b6
      · exact b7
      · exact b8
      · exact ⟨Int.le_refl _, Int.le_refl _⟩
      · exact ⟨Int.le_refl _, Int.le_refl _⟩
      · exact ⟨Int.le_refl _, Int.le_refl _⟩
      · exact b12
      · exact b13
      · exact b14
      · exact b15
      · exact c1
      · exact c2
      · exact c3
      · exact c4
      · exact c5
      · exact c6
      · exact c7
      · exact c8
      · exact c9
    refine sseg_okP yComp ySing yCell yR1000 (yGvOk ht) hd (yHs_clC (yGvOk ht) (yHy6 ht)) 500 247 true _ loc [] h1 _ _ yD_clC hM2 hG1 hF1 ?_ ?_
    · intro pc A hA
      cases hA
    · intro r h' hG' hF' hE
      refine yone hE (ya1 ?_ (ya1 ?_ ya0))
      · intro hX
        obtain ⟨ρx, a, -, -, ⟨-, -, -, -, -, -, -, -, -, -, -, u0, -⟩, -⟩ := yexU hX
        have xq : ρx 14 = q := (a 14 (by decide)).trans (show ρ 14 = q by omega)
        have y0 : ρx 15 = yv h 411 q := (a 15 (by decide)).trans (show ρ 15 = yv h 411 q by omega)
        have u0 := ysm_u (k := 411) (by decide) (by decide +kernel) u0 q (by show 0 + (1 * ρx 14 + 0) = _; rw [xq]; omega)
        have u0 : yv h' 411 q = 0 + (1 * ρx 15 + 0) := u0
        exact by omega
      · intro hX
        obtain ⟨ρx, a, -, -, ⟨-, -, -, -, -, -, u0, -⟩, -⟩ := yexU hX
        have xq : ρx 14 = q := (a 14 (by decide)).trans (show ρ 14 = q by omega)
        have y0 : ρx 15 = yv h 411 q := (a 15 (by decide)).trans (show ρ 15 = yv h 411 q by omega)
        have u0 := ysm_u (k := 411) (by decide) (by decide +kernel) u0 q (by show 0 + (1 * ρx 14 + 0) = _; rw [xq]; omega)
        have u0 : yv h' 411 q = 0 + (1 * ρx 15 + 0) := u0
        exact by omega
/-! clause's contract -/
theorem ycl0 {h h' : zH} {n c e : Nat} (hco : ∀ i, i < 520 * n + e → yco h' i = yco h i ∧ yva h' i = yva h i) (e1 : yv h' 412 (140 * n + c) = yv h 412 (140 * n + c)) (e2 : yv h' 413 (140 * n + c) = yv h 413 (140 * n + c)) (e3 : yv h' 414 (140 * n + c) = yv h 414 (140 * n + c)) (H : ycl h n c e) : ycl h' n c e := by
  obtain ⟨tf, sf, st, a1, a2, a3, a4, a5, a6, w1, w2⟩ := H
  exact ⟨tf, sf, st, e1.trans a1, e2.trans a2, e3.trans a3, a4, a5, a6, ywf0 (fun i hi => hco i (by omega)) w1, ywf0 (fun i hi => hco i (by omega)) w2⟩
theorem ycl_mono {h : zH} {n c e e' : Nat} (he : e ≤ e') (H : ycl h n c e) : ycl h n c e' := by
  obtain ⟨tf, sf, st, a1, a2, a3, a4, a5, a6, w1, w2⟩ := H
  exact ⟨tf, sf, st, a1, a2, a3, a4, a5, Nat.le_trans a6 he, w1, w2⟩
theorem yT33_ok {t s : Nat} (ht : t < 5) {c0 v0 : Nat → Int} {ar : Nat → Int32} : ySum (yGv t s c0 v0 ar) yT33 := by
  intro args h ρ ρ0 hG hM d hd
  have hd : 35 ≤ d := hd
  obtain ⟨⟨r0, -⟩, ⟨m0, m1, m2, m3, m4, m5, m6, m7, m8, -⟩, ⟨b0, b1, b2, b3, b4, b5, b6, b7, b8, -⟩, ⟨k0, k1, k2, -⟩, ⟨p0, p1, p2, p3, p4, p5, p6, -⟩, -⟩ := yun hM
  have b0 : 0 ≤ ρ 0 ∧ ρ 0 ≤ 240 := b0
  have b1 : 0 ≤ ρ 1 ∧ ρ 1 ≤ 240 := b1
  have b2 : -1 ≤ ρ 2 ∧ ρ 2 ≤ -1 := b2
  have b3 : 0 ≤ ρ 3 ∧ ρ 3 ≤ 0 := b3
  have b4 : 0 ≤ ρ 4 ∧ ρ 4 ≤ 4 := b4
  have b5 : 0 ≤ ρ 5 ∧ ρ 5 ≤ 480 := b5
  have b6 : 0 ≤ ρ 6 ∧ ρ 6 ≤ 120 := b6
  have b7 : 1 ≤ ρ 7 ∧ ρ 7 ≤ 1 := b7
  have b8 : 1 ≤ ρ 8 ∧ ρ 8 ≤ 1 := b8
  have k0 : 0 + (1 * ρ 0 + (-1 * ρ 1 + 0)) ≤ 0 := k0
  have k1 : 0 + (-2 * ρ 0 + (1 * ρ 5 + 0)) ≤ 0 := k1
  have k2 : 0 + (-1 * ρ 0 + (2 * ρ 6 + 0)) ≤ 0 := k2
  have p0 : ρ0 1 = ρ 0 := p0
  have p1 : ρ0 2 = ρ 1 := p1
  have p4 : ρ0 5 = ρ 4 := p4
  have p5 : ρ0 6 = ρ 5 := p5
  have p6 : ρ0 7 = ρ 6 := p6
  have g11 : yG11 h := by
    have := ysm_gu (a := 11) m7
    rw [sY_v] at this
    have this : yGv t s c0 v0 ar 11 h = ρ 7 := this
    rw [show ρ 7 = 1 by omega] at this
    exact yB_1.mp this
  have g12 : yG12 h := by
    have := ysm_gu (a := 12) m8
    rw [sY_v] at this
    have this : yGv t s c0 v0 ar 12 h = ρ 8 := this
    rw [show ρ 8 = 1 by omega] at this
    exact yB_1.mp this
  have v3 := ysm_u (k := 440) (by decide) (by decide +kernel) m0 3 rfl
  have v2 := ysm_u (k := 440) (by decide) (by decide +kernel) m1 2 rfl
  have v4 := ysm_u (k := 440) (by decide) (by decide +kernel) m2 4 rfl
  have v5 := ysm_u (k := 440) (by decide) (by decide +kernel) m3 5 rfl
  have v14 := ysm_u (k := 440) (by decide) (by decide +kernel) m4 14 rfl
  rw [sY_v] at v3 v2 v4 v5 v14
  have v3 : yv h 440 3 = ρ 0 := v3
  have v2 : yv h 440 2 = ρ 1 := v2
  have v4 : yv h 440 4 = ρ 2 := v4
  have v5 : yv h 440 5 = ρ 3 := v5
  have v14 : yv h 440 14 = ρ 4 := v14
  obtain ⟨tx, htx⟩ : ∃ u : Nat, ρ 4 = u := ⟨(ρ 4).toNat, by omega⟩
  obtain ⟨s0, hs0⟩ : ∃ u : Nat, ρ 5 = u := ⟨(ρ 5).toNat, by omega⟩
  obtain ⟨n0, hn0⟩ : ∃ u : Nat, ρ 6 = u := ⟨(ρ 6).toNat, by omega⟩
  have vc := ysm_u (k := 410) (by decide) (by decide +kernel) m5 tx (by show 0 + (1 * ρ 4 + 0) = _; omega)
  have vk := ysm_u (k := 411) (by decide) (by decide +kernel) m6 tx (by show 0 + (1 * ρ 4 + 0) = _; omega)
  rw [sY_v] at vc vk
  have vc : yv h 410 tx = ρ 5 := vc
  have vk : yv h 411 tx = ρ 6 := vk
  have runB : ∀ q : Nat, q < 140 * tx + n0 → ∃ m r h', yrun m d 111 args h = some (r, h') ∧ (yv h' 412 q = yv h 412 q ∧ yv h' 413 q = yv h 413 q ∧ yv h' 414 q = yv h 414 q) := fun q hq => ycl_B (by omega) hG r0 (t := tx) (s0 := s0) (k0 := n0) (by omega) v3 v2 (by omega) (by omega) (by omega) (vc.trans hs0) (vk.trans hn0) b0 b1 (by omega) (by omega) (by omega) (by omega) (by omega) hq
  have runC : ∀ q : Nat, q < tx → ∃ m r h', yrun m d 111 args h = some (r, h') ∧ (yv h' 411 q = yv h 411 q) := fun q hq => ycl_C (by omega) hG r0 (t := tx) (s0 := s0) (k0 := n0) (by omega) v3 v2 (by omega) (by omega) (by omega) (vc.trans hs0) (vk.trans hn0) b0 b1 (by omega) (by omega) (by omega) (by omega) (by omega) hq
  obtain ⟨m, r, h', r1, rfl, hG', hF', hU, hE⟩ := ycl_A (by omega) hG r0 (t := tx) (s0 := s0) (k0 := n0) (by omega) v3 v2 (by omega) (by omega) (by omega) (vc.trans hs0) (vk.trans hn0) b0 b1 (by omega) (by omega) (by omega) (by omega) (by omega)
  have fB : ∀ q : Nat, q < 140 * tx + n0 → yv h' 412 q = yv h 412 q ∧ yv h' 413 q = yv h 413 q ∧ yv h' 414 q = yv h 414 q := by
    intro q hq
    obtain ⟨m2, r2, h2, e1, e2⟩ := runB q hq
    have := yrun_u r1 e1
    cases this
    exact e2
  have fC : ∀ q : Nat, q < tx → yv h' 411 q = yv h 411 q := by
    intro q hq
    obtain ⟨m2, r2, h2, e1, e2⟩ := runC q hq
    have := yrun_u r1 e1
    cases this
    exact e2
  have co : ∀ i, i < 520 * tx + s0 → yco h' i = yco h i ∧ yva h' i = yva h i := by
    intro i hi
    unfold yco yva
    rw [if_pos (by omega), if_pos (by omega), if_pos (by omega), if_pos (by omega)]
    exact hU i (by omega) (Or.inl hi)
  have w14 : yv h' 440 14 = yv h 440 14 := yfv hF' (by decide +kernel)
  have w13 : yv h' 440 13 = yv h 440 13 := yfv hF' (by decide +kernel)
  have w25 : yv h' 440 25 = yv h 440 25 := yfv hF' (by decide +kernel)
  have G12 : yG12 h' := by
    obtain ⟨⟨a1, a2⟩, a3⟩ := g12
    refine ⟨⟨by rw [w25, w13]; exact a1, ?_⟩, by rw [w13, w14]; exact a3⟩
    intro n h1 h2
    rw [w13] at h2
    obtain ⟨k, q1, q2, q3⟩ := a2 n h1 h2
    have hnt : n < tx := by omega
    refine ⟨k, (fC n hnt).trans q1, q2, ?_⟩
    intro c hc
    have := fB (140 * n + c) (by omega)
    exact ycl0 (fun i hi => co i (by omega)) this.1 this.2.1 this.2.2 (q3 c hc)
  have hF2 : sF yReg yT33.2.2.2.1 h h' := by
    refine smo_ok (md := yT33.2.2.2.1) (d := (120, 3, 3) :: (120, 4, 4) :: (120, 5, 5) :: yQ_clA.2.2.2.1.drop 1) (by decide +kernel) (fun _ _ hne => absurd rfl hne) ?_
    intro k i hne
    obtain ⟨z, hz, f1, f2, f3⟩ := hF' k i hne
    rcases List.mem_cons.mp (show z ∈ (120, 3, 5) :: yQ_clA.2.2.2.1.drop 1 from hz) with rfl | hz
    · have f2 : (3 : Int) ≤ (i : Int) := f2
      have f3 : (i : Int) ≤ 5 := f3
      rcases (show i = 3 ∨ i = 4 ∨ i = 5 by omega) with rfl | rfl | rfl
      · exact ⟨(120, 3, 3), List.mem_cons_self .., f1, Int.le_refl _, Int.le_refl _⟩
      · exact ⟨(120, 4, 4), List.mem_cons_of_mem _ (List.mem_cons_self ..), f1, Int.le_refl _, Int.le_refl _⟩
      · exact ⟨(120, 5, 5), List.mem_cons_of_mem _ (List.mem_cons_of_mem _ (List.mem_cons_self ..)), f1, Int.le_refl _, Int.le_refl _⟩
    · exact ⟨z, List.mem_cons_of_mem _ (List.mem_cons_of_mem _ (List.mem_cons_of_mem _ hz)), f1, f2, f3⟩
  rcases hE with ⟨⟨a1, a1'⟩, a2, a3, a4, a5, sf, e, f1, f2, f3, f4, f5, f6, f7, f8, f9, f10⟩ | ⟨x1, x2, x3, x4, x5⟩
  · have G11 : yG11 h' := by
      obtain ⟨u, k, e0, q1, q2, q3, q4, q5, q6, q7⟩ := g11
      have hu : u = tx := by omega
      subst hu
      have hk : k = n0 := by omega
      have he0 : e0 = s0 := by omega
      subst hk he0
      refine ⟨u, k + 1, e, q1, w14.trans q2, by rw [a4]; rfl, by omega, f1, by omega, ?_⟩
      intro c hc
      by_cases hck : c < k
      · have := fB (140 * u + c) (by omega)
        exact ycl_mono (by omega) (ycl0 (fun i hi => co i hi) this.1 this.2.1 this.2.2 (q7 c hck))
      · have : c = k := by omega
        subst this
        exact ⟨e0, sf, e, f6, f7, f8, f4, f5, Nat.le_refl _, f9, f10⟩
    refine ⟨m, none, h', r1, hG', hF2, _, List.mem_cons_self .., yexM (fun j => if j = 9 then yv h' 440 3 else if j = 10 then (e : Int) else ρ0 (j + 1)) ?_ (ya1 ?_ (ya1 ?_ ya0)) (ya1 ?_ (ya1 ?_ (ya1 ?_ (ya1 ?_ ya0)))) (ya1 ?_ (ya1 ?_ (ya1 ?_ (ya1 ?_ (ya1 ?_ (ya1 ?_ (ya1 ?_ ya0))))))) trivial⟩
    · intro j hj
      have hj : j < 9 := hj
      show (if j = 9 then yv h' 440 3 else if j = 10 then (e : Int) else ρ0 (j + 1)) = _
      rw [if_neg (by omega), if_neg (by omega)]
    · show 0 ≤ yv h' 440 3 ∧ yv h' 440 3 ≤ 240
      omega
    · show 0 ≤ (e : Int) ∧ (e : Int) ≤ 481
      omega
    · show 0 + (1 * ρ0 1 + (-1 * yv h' 440 3 + 0)) ≤ 0
      omega
    · show 0 + (-1 * ρ0 2 + (1 * yv h' 440 3 + 0)) ≤ 0
      omega
    · show -1 + (-2 * yv h' 440 3 + (1 * (e : Int) + 0)) ≤ 0
      omega
    · show 2 + (2 * ρ0 7 + (-1 * yv h' 440 3 + 0)) ≤ 0
      omega
    · refine ysm_p (k := 440) (by decide) (by decide +kernel) (by decide +kernel) 3 rfl ?_
      show yv h' 440 3 = 0 + (1 * yv h' 440 3 + 0)
      omega
    · exact ysm_p (k := 440) (by decide) (by decide +kernel) (by decide +kernel) 4 rfl a2
    · exact ysm_p (k := 440) (by decide) (by decide +kernel) (by decide +kernel) 5 rfl a3
    · refine ysm_p (k := 410) (by decide) (by decide +kernel) (by decide +kernel) tx ?_ ?_
      · show 0 + (1 * ρ0 5 + 0) = _
        omega
      · show yv h' 410 tx = 0 + (1 * (e : Int) + 0)
        omega
    · refine ysm_p (k := 411) (by decide) (by decide +kernel) (by decide +kernel) tx ?_ ?_
      · show 0 + (1 * ρ0 5 + 0) = _
        omega
      · show yv h' 411 tx = 1 + (1 * ρ0 7 + 0)
        omega
    · refine ysm_g (a := 11) ?_
      show yB (yG11 h') = 1
      exact yB_1.mpr G11
    · refine ysm_g (a := 12) ?_
      show yB (yG12 h') = 1
      exact yB_1.mpr G12
  · refine ⟨m, none, h', r1, hG', hF2, _, List.mem_cons_of_mem _ (List.mem_cons_self ..), yexM (fun j => if j = 9 then yv h' 440 3 else if j = 10 then yv h' 440 4 else if j = 11 then yv h' 440 5 else if j = 12 then yv h' 410 tx else if j = 13 then yv h' 411 tx else ρ0 (j + 1)) ?_ (ya1 x1 (ya1 x2 (ya1 x3 (ya1 x4 (ya1 x5 ya0))))) ya0 (ya1 ?_ (ya1 ?_ (ya1 ?_ (ya1 ?_ (ya1 ?_ (ya1 ?_ ya0)))))) trivial⟩
    · intro j hj
      have hj : j < 9 := hj
      show (if j = 9 then yv h' 440 3 else if j = 10 then yv h' 440 4 else if j = 11 then yv h' 440 5 else if j = 12 then yv h' 410 tx else if j = 13 then yv h' 411 tx else ρ0 (j + 1)) = _
      rw [if_neg (by omega), if_neg (by omega), if_neg (by omega), if_neg (by omega), if_neg (by omega)]
    · refine ysm_p (k := 440) (by decide) (by decide +kernel) (by decide +kernel) 3 rfl ?_
      show yv h' 440 3 = 0 + (1 * yv h' 440 3 + 0)
      omega
    · refine ysm_p (k := 440) (by decide) (by decide +kernel) (by decide +kernel) 4 rfl ?_
      show yv h' 440 4 = 0 + (1 * yv h' 440 4 + 0)
      omega
    · refine ysm_p (k := 440) (by decide) (by decide +kernel) (by decide +kernel) 5 rfl ?_
      show yv h' 440 5 = 0 + (1 * yv h' 440 5 + 0)
      omega
    · refine ysm_p (k := 410) (by decide) (by decide +kernel) (by decide +kernel) tx ?_ ?_
      · show 0 + (1 * ρ0 5 + 0) = _
        omega
      · show yv h' 410 tx = 0 + (1 * yv h' 410 tx + 0)
        omega
    · refine ysm_p (k := 411) (by decide) (by decide +kernel) (by decide +kernel) tx ?_ ?_
      · show 0 + (1 * ρ0 5 + 0) = _
        omega
      · show yv h' 411 tx = 0 + (1 * yv h' 411 tx + 0)
        omega
    · refine ysm_g (a := 12) ?_
      show yB (yG12 h') = 1
      exact yB_1.mpr G12
