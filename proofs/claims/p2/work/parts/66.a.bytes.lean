/-! byteOf's run, step by step -/
noncomputable abbrev yz (n d mid pc : Nat) (loc : zL) (stk : List zV) (h : zH) : Option (Option zV × zH) := zrun yTab yPI yMl yMr yFld yKI yKL yGst yLdS yFldS yAcp yCal n d mid pc loc stk h
theorem ystp {n d mid pc : Nat} {loc : zL} {stk : List zV} {h : zH} {i : Instr} {pc' : Nat} {loc' : zL} {stk' : List zV} {h' : zH} (hi : yPI mid pc = some i) (hc : zcl yTab yMl yCal mid i stk = none) (he : zend (yMr mid) i stk = none) (hs : zst yTab yFld yKI yKL yGst yLdS yFldS yAcp mid i pc loc stk h = some (pc', loc', stk', h')) : yz (n + 1) d mid pc loc stk h = yz n d mid pc' loc' stk' h' := by
  show zrun yTab yPI yMl yMr yFld yKI yKL yGst yLdS yFldS yAcp yCal (n + 1) d mid pc loc stk h = _
  rw [zrun]
  simp only [hi, hc, he, hs]
theorem yend {n d mid pc : Nat} {loc : zL} {stk : List zV} {h : zH} {i : Instr} {r : Option zV} (hi : yPI mid pc = some i) (hc : zcl yTab yMl yCal mid i stk = none) (he : zend (yMr mid) i stk = some r) : yz (n + 1) d mid pc loc stk h = some (r, h) := by
  show zrun yTab yPI yMl yMr yFld yKI yKL yGst yLdS yFldS yAcp yCal (n + 1) d mid pc loc stk h = _
  rw [zrun]
  simp only [hi, hc, he]
theorem yst_1 {mid pc : Nat} {loc : zL} {stk : List zV} {h : zH} {i : Instr} {q : zN} (e : zf1 i pc loc stk h = some q) : zst yTab yFld yKI yKL yGst yLdS yFldS yAcp mid i pc loc stk h = some q := by
  unfold zst
  rw [e]
section YBT
variable {n d : Nat} {loc : zL} {stk : List zV} {h : zH}
theorem ybil {mid pc k : Nat} {x : Int32} (hi : yPI mid pc = some (.iload k)) (hk : zget loc k = some (.inl x)) : yz (n + 1) d mid pc loc stk h = yz n d mid (pc + 2) loc (.inl x :: stk) h :=
  ystp hi rfl rfl (yst_1 (by show zog loc k _ = _; unfold zog; rw [hk]; rfl))
theorem ybin {mid pc : Nat} {k : Fin 4} {x : Int32} (hi : yPI mid pc = some (.iload_n k)) (hk : zget loc k.val = some (.inl x)) : yz (n + 1) d mid pc loc stk h = yz n d mid (pc + 1) loc (.inl x :: stk) h :=
  ystp hi rfl rfl (yst_1 (by show zog loc k.val _ = _; unfold zog; rw [hk]; rfl))
theorem ybge {mid pc : Nat} {off : Int} {x y : Int32} (hi : yPI mid pc = some (.if_icmp .ge off)) (ho : 0 ≤ (pc : Int) + off) (hxy : y ≤ x) : yz (n + 1) d mid pc loc (.inl y :: .inl x :: stk) h = yz n d mid (ztgt pc off) loc stk h :=
  ystp hi rfl rfl (yst_1 (by
    show zgd (decide (0 ≤ (pc : Int) + off)) (if zk2 .ge x y = true then some (ztgt pc off, loc, stk, h) else some (pc + 3, loc, stk, h)) = _
    unfold zgd
    rw [if_pos (decide_eq_true ho), if_pos (show zk2 .ge x y = true from decide_eq_true hxy)]))
theorem ybgn {mid pc : Nat} {off : Int} {x y : Int32} (hi : yPI mid pc = some (.if_icmp .ge off)) (ho : 0 ≤ (pc : Int) + off) (hxy : ¬ y ≤ x) : yz (n + 1) d mid pc loc (.inl y :: .inl x :: stk) h = yz n d mid (pc + 3) loc stk h :=
  ystp hi rfl rfl (yst_1 (by
    show zgd (decide (0 ≤ (pc : Int) + off)) (if zk2 .ge x y = true then some (ztgt pc off, loc, stk, h) else some (pc + 3, loc, stk, h)) = _
    unfold zgd
    rw [if_pos (decide_eq_true ho), if_neg (show ¬ zk2 .ge x y = true from fun e => hxy (of_decide_eq_true (show decide (y ≤ x) = true from e)))]))
theorem ybgo {mid pc : Nat} {off : Int} (hi : yPI mid pc = some (.goto off)) (ho : 0 ≤ (pc : Int) + off) : yz (n + 1) d mid pc loc stk h = yz n d mid (ztgt pc off) loc stk h :=
  ystp hi rfl rfl (yst_1 (by
    show zj pc off loc stk h = _
    unfold zj
    rw [if_pos ho]))
end YBT
noncomputable def yar (a b c d e : Int32) (j : Nat) : Int32 := if j = 0 then a else if j = 1 then b else if j = 2 then c else if j = 3 then d else e
noncomputable def ybl (a b c d e k : Int32) (r : List zV) : zL := (0, .inl a) :: (1, .inl b) :: (2, .inl c) :: (3, .inl d) :: (4, .inl e) :: (5, .inl k) :: zent 6 r
/-- from the word on -/
theorem ybtl (a b c d e k w : Int32) (r : List zV) (n dd : Nat) (h : zH) : yz (n + 13) dd 110 45 (ybl a b c d e k r) [.inl w] h = some (some (.inl ((w >>> (((Int8.ofInt 24).toInt32 - (Int8.ofInt 8).toInt32 * (k - k / Int32.ofInt 4 * Int32.ofInt 4)) &&& 31)) &&& (Int16.ofInt 255).toInt32)), h) := by
  refine (ystp (i := .istore 6) (by decide +kernel) rfl rfl (yst_1 rfl)).trans ?_
  refine (ybil (k := 6) (by decide +kernel) rfl).trans ?_
  refine (ystp (i := .bipush 24) (by decide +kernel) rfl rfl (yst_1 rfl)).trans ?_
  refine (ystp (i := .bipush 8) (by decide +kernel) rfl rfl (yst_1 rfl)).trans ?_
  refine (ybil (k := 5) (by decide +kernel) rfl).trans ?_
  refine (ystp (i := .iconst 4) (by decide +kernel) rfl rfl (yst_1 rfl)).trans ?_
  refine (ystp (i := .irem) (by decide +kernel) rfl rfl (yst_1 (by
    show zgd (decide (¬ Int32.ofInt 4 = 0)) (some (57, zput1 (ybl a b c d e k r) 6 (.inl w), .inl (k - k / Int32.ofInt 4 * Int32.ofInt 4) :: .inl (Int8.ofInt 8).toInt32 :: .inl (Int8.ofInt 24).toInt32 :: .inl w :: [], h)) = _
    unfold zgd
    rw [if_pos (by decide +kernel)]))).trans ?_
  refine (ystp (i := .imul) (by decide +kernel) rfl rfl (yst_1 rfl)).trans ?_
  refine (ystp (i := .isub) (by decide +kernel) rfl rfl (yst_1 rfl)).trans ?_
  refine (ystp (i := .ishr) (by decide +kernel) rfl rfl (yst_1 rfl)).trans ?_
  refine (ystp (i := .sipush 255) (by decide +kernel) rfl rfl (yst_1 rfl)).trans ?_
  refine (ystp (i := .iand) (by decide +kernel) rfl rfl (yst_1 rfl)).trans ?_
  exact yend (i := .ireturn) (by decide +kernel) rfl rfl
/-- the word -/
theorem ybhd (a b c d e k : Int32) (r : List zV) (n dd : Nat) (h : zH) (q : Nat) (hq : q < 20) (hk : k.toInt = q) : ∃ m, yz (n + m) dd 110 0 (ybl a b c d e k r) [] h = yz n dd 110 45 (ybl a b c d e k r) [.inl (ybw (yar a b c d e) q)] h := by
  have c4 : (Int32.ofInt 4 ≤ k) ↔ 4 ≤ q := by rw [Int32.le_iff_toInt_le, hk]; show (4 : Int) ≤ q ↔ _; omega
  have c8 : ((Int8.ofInt 8).toInt32 ≤ k) ↔ 8 ≤ q := by rw [Int32.le_iff_toInt_le, hk]; show (8 : Int) ≤ q ↔ _; omega
  have c12 : ((Int8.ofInt 12).toInt32 ≤ k) ↔ 12 ≤ q := by rw [Int32.le_iff_toInt_le, hk]; show (12 : Int) ≤ q ↔ _; omega
  have c16 : ((Int8.ofInt 16).toInt32 ≤ k) ↔ 16 ≤ q := by rw [Int32.le_iff_toInt_le, hk]; show (16 : Int) ≤ q ↔ _; omega
  unfold ybw
  by_cases h4 : q < 4
  · rw [if_pos h4]
    refine ⟨5, ?_⟩
    refine (ybil (k := 5) (by decide +kernel) rfl).trans ?_
    refine (ystp (i := .iconst 4) (by decide +kernel) rfl rfl (yst_1 rfl)).trans ?_
    refine (ybgn (off := 7) (by decide +kernel) (by decide) (fun e => by have := c4.mp e; omega)).trans ?_
    refine (ybin (k := 0) (by decide +kernel) rfl).trans ?_
    exact ybgo (off := 38) (by decide +kernel) (by decide)
  rw [if_neg h4]
  by_cases h8 : q < 8
  · rw [if_pos h8]
    refine ⟨8, ?_⟩
    refine (ybil (k := 5) (by decide +kernel) rfl).trans ?_
    refine (ystp (i := .iconst 4) (by decide +kernel) rfl rfl (yst_1 rfl)).trans ?_
    refine (ybge (off := 7) (by decide +kernel) (by decide) (c4.mpr (by omega))).trans ?_
    refine (ybil (k := 5) (by decide +kernel) rfl).trans ?_
    refine (ystp (i := .bipush 8) (by decide +kernel) rfl rfl (yst_1 rfl)).trans ?_
    refine (ybgn (off := 7) (by decide +kernel) (by decide) (fun e => by have := c8.mp e; omega)).trans ?_
    refine (ybin (k := 1) (by decide +kernel) rfl).trans ?_
    exact ybgo (off := 27) (by decide +kernel) (by decide)
  rw [if_neg h8]
  by_cases h12 : q < 12
  · rw [if_pos h12]
    refine ⟨11, ?_⟩
    refine (ybil (k := 5) (by decide +kernel) rfl).trans ?_
    refine (ystp (i := .iconst 4) (by decide +kernel) rfl rfl (yst_1 rfl)).trans ?_
    refine (ybge (off := 7) (by decide +kernel) (by decide) (c4.mpr (by omega))).trans ?_
    refine (ybil (k := 5) (by decide +kernel) rfl).trans ?_
    refine (ystp (i := .bipush 8) (by decide +kernel) rfl rfl (yst_1 rfl)).trans ?_
    refine (ybge (off := 7) (by decide +kernel) (by decide) (c8.mpr (by omega))).trans ?_
    refine (ybil (k := 5) (by decide +kernel) rfl).trans ?_
    refine (ystp (i := .bipush 12) (by decide +kernel) rfl rfl (yst_1 rfl)).trans ?_
    refine (ybgn (off := 7) (by decide +kernel) (by decide) (fun e => by have := c12.mp e; omega)).trans ?_
    refine (ybin (k := 2) (by decide +kernel) rfl).trans ?_
    exact ybgo (off := 16) (by decide +kernel) (by decide)
  rw [if_neg h12]
  by_cases h16 : q < 16
  · rw [if_pos h16]
    refine ⟨14, ?_⟩
    refine (ybil (k := 5) (by decide +kernel) rfl).trans ?_
    refine (ystp (i := .iconst 4) (by decide +kernel) rfl rfl (yst_1 rfl)).trans ?_
    refine (ybge (off := 7) (by decide +kernel) (by decide) (c4.mpr (by omega))).trans ?_
    refine (ybil (k := 5) (by decide +kernel) rfl).trans ?_
    refine (ystp (i := .bipush 8) (by decide +kernel) rfl rfl (yst_1 rfl)).trans ?_
    refine (ybge (off := 7) (by decide +kernel) (by decide) (c8.mpr (by omega))).trans ?_
    refine (ybil (k := 5) (by decide +kernel) rfl).trans ?_
    refine (ystp (i := .bipush 12) (by decide +kernel) rfl rfl (yst_1 rfl)).trans ?_
    refine (ybge (off := 7) (by decide +kernel) (by decide) (c12.mpr (by omega))).trans ?_
    refine (ybil (k := 5) (by decide +kernel) rfl).trans ?_
    refine (ystp (i := .bipush 16) (by decide +kernel) rfl rfl (yst_1 rfl)).trans ?_
    refine (ybgn (off := 7) (by decide +kernel) (by decide) (fun e => by have := c16.mp e; omega)).trans ?_
    refine (ybin (k := 3) (by decide +kernel) rfl).trans ?_
    exact ybgo (off := 5) (by decide +kernel) (by decide)
  rw [if_neg h16]
  refine ⟨13, ?_⟩
  refine (ybil (k := 5) (by decide +kernel) rfl).trans ?_
  refine (ystp (i := .iconst 4) (by decide +kernel) rfl rfl (yst_1 rfl)).trans ?_
  refine (ybge (off := 7) (by decide +kernel) (by decide) (c4.mpr (by omega))).trans ?_
  refine (ybil (k := 5) (by decide +kernel) rfl).trans ?_
  refine (ystp (i := .bipush 8) (by decide +kernel) rfl rfl (yst_1 rfl)).trans ?_
  refine (ybge (off := 7) (by decide +kernel) (by decide) (c8.mpr (by omega))).trans ?_
  refine (ybil (k := 5) (by decide +kernel) rfl).trans ?_
  refine (ystp (i := .bipush 12) (by decide +kernel) rfl rfl (yst_1 rfl)).trans ?_
  refine (ybge (off := 7) (by decide +kernel) (by decide) (c12.mpr (by omega))).trans ?_
  refine (ybil (k := 5) (by decide +kernel) rfl).trans ?_
  refine (ystp (i := .bipush 16) (by decide +kernel) rfl rfl (yst_1 rfl)).trans ?_
  refine (ybge (off := 7) (by decide +kernel) (by decide) (c16.mpr (by omega))).trans ?_
  exact ybil (k := 4) (by decide +kernel) rfl
/-! byteOf, by hand -/
theorem yarg {args : List zV} {k : Nat} {x : Int32} (h : zget (zent k args) k = some (.inl x)) : ∃ r, args = .inl x :: r ∧ ∀ j, j ≠ k → zget (zent k args) j = zget (zent (k + 1) r) j := by
  match args, h with
  | v :: r, h =>
    have e : zget (zent k (v :: r)) k = some v := by
      unfold zent zget
      rw [List.find?_cons_of_pos (by simp)]
      rfl
    rw [e] at h
    cases h
    refine ⟨r, rfl, ?_⟩
    intro j hj
    show zget ((k, .inl x) :: zent (k + 1) r) j = _
    unfold zget
    rw [List.find?_cons_of_neg (by simp; omega)]
theorem ybyte0 (a b c d e : Int32) (r : List zV) (dd : Nat) (h : zH) : ∃ m, yrun m dd yT12.1 (.inl a :: .inl b :: .inl c :: .inl d :: .inl e :: .inl 0 :: r) h = some (some (.inl (yby (yar a b c d e) 0)), h) := by
  obtain ⟨m, e1⟩ := ybhd a b c d e 0 r 13 dd h 0 (by decide) (by decide)
  refine ⟨13 + m, e1.trans ((ybtl a b c d e 0 _ r 0 dd h).trans ?_)⟩
  unfold yby
  rw [show ((Int8.ofInt 24).toInt32 - (Int8.ofInt 8).toInt32 * ((0 : Int32) - 0 / Int32.ofInt 4 * Int32.ofInt 4)) &&& 31 = Int32.ofNat (24 - 8 * (0 % 4)) &&& 31 by decide +kernel, show (Int16.ofInt 255).toInt32 = 255 by decide +kernel]
theorem ybyte1 (a b c d e : Int32) (r : List zV) (dd : Nat) (h : zH) : ∃ m, yrun m dd yT13.1 (.inl a :: .inl b :: .inl c :: .inl d :: .inl e :: .inl 1 :: r) h = some (some (.inl (yby (yar a b c d e) 1)), h) := by
  obtain ⟨m, e1⟩ := ybhd a b c d e 1 r 13 dd h 1 (by decide) (by decide)
  refine ⟨13 + m, e1.trans ((ybtl a b c d e 1 _ r 0 dd h).trans ?_)⟩
  unfold yby
  rw [show ((Int8.ofInt 24).toInt32 - (Int8.ofInt 8).toInt32 * ((1 : Int32) - 1 / Int32.ofInt 4 * Int32.ofInt 4)) &&& 31 = Int32.ofNat (24 - 8 * (1 % 4)) &&& 31 by decide +kernel, show (Int16.ofInt 255).toInt32 = 255 by decide +kernel]
theorem ybyte2 (a b c d e : Int32) (r : List zV) (dd : Nat) (h : zH) : ∃ m, yrun m dd yT14.1 (.inl a :: .inl b :: .inl c :: .inl d :: .inl e :: .inl 2 :: r) h = some (some (.inl (yby (yar a b c d e) 2)), h) := by
  obtain ⟨m, e1⟩ := ybhd a b c d e 2 r 13 dd h 2 (by decide) (by decide)
  refine ⟨13 + m, e1.trans ((ybtl a b c d e 2 _ r 0 dd h).trans ?_)⟩
  unfold yby
  rw [show ((Int8.ofInt 24).toInt32 - (Int8.ofInt 8).toInt32 * ((2 : Int32) - 2 / Int32.ofInt 4 * Int32.ofInt 4)) &&& 31 = Int32.ofNat (24 - 8 * (2 % 4)) &&& 31 by decide +kernel, show (Int16.ofInt 255).toInt32 = 255 by decide +kernel]
theorem ybyte3 (a b c d e : Int32) (r : List zV) (dd : Nat) (h : zH) : ∃ m, yrun m dd yT15.1 (.inl a :: .inl b :: .inl c :: .inl d :: .inl e :: .inl 3 :: r) h = some (some (.inl (yby (yar a b c d e) 3)), h) := by
  obtain ⟨m, e1⟩ := ybhd a b c d e 3 r 13 dd h 3 (by decide) (by decide)
  refine ⟨13 + m, e1.trans ((ybtl a b c d e 3 _ r 0 dd h).trans ?_)⟩
  unfold yby
  rw [show ((Int8.ofInt 24).toInt32 - (Int8.ofInt 8).toInt32 * ((3 : Int32) - 3 / Int32.ofInt 4 * Int32.ofInt 4)) &&& 31 = Int32.ofNat (24 - 8 * (3 % 4)) &&& 31 by decide +kernel, show (Int16.ofInt 255).toInt32 = 255 by decide +kernel]
theorem ybyte4 (a b c d e : Int32) (r : List zV) (dd : Nat) (h : zH) : ∃ m, yrun m dd yT16.1 (.inl a :: .inl b :: .inl c :: .inl d :: .inl e :: .inl 4 :: r) h = some (some (.inl (yby (yar a b c d e) 4)), h) := by
  obtain ⟨m, e1⟩ := ybhd a b c d e 4 r 13 dd h 4 (by decide) (by decide)
  refine ⟨13 + m, e1.trans ((ybtl a b c d e 4 _ r 0 dd h).trans ?_)⟩
  unfold yby
  rw [show ((Int8.ofInt 24).toInt32 - (Int8.ofInt 8).toInt32 * ((4 : Int32) - 4 / Int32.ofInt 4 * Int32.ofInt 4)) &&& 31 = Int32.ofNat (24 - 8 * (4 % 4)) &&& 31 by decide +kernel, show (Int16.ofInt 255).toInt32 = 255 by decide +kernel]
theorem ybyte5 (a b c d e : Int32) (r : List zV) (dd : Nat) (h : zH) : ∃ m, yrun m dd yT17.1 (.inl a :: .inl b :: .inl c :: .inl d :: .inl e :: .inl 5 :: r) h = some (some (.inl (yby (yar a b c d e) 5)), h) := by
  obtain ⟨m, e1⟩ := ybhd a b c d e 5 r 13 dd h 5 (by decide) (by decide)
  refine ⟨13 + m, e1.trans ((ybtl a b c d e 5 _ r 0 dd h).trans ?_)⟩
  unfold yby
  rw [show ((Int8.ofInt 24).toInt32 - (Int8.ofInt 8).toInt32 * ((5 : Int32) - 5 / Int32.ofInt 4 * Int32.ofInt 4)) &&& 31 = Int32.ofNat (24 - 8 * (5 % 4)) &&& 31 by decide +kernel, show (Int16.ofInt 255).toInt32 = 255 by decide +kernel]
theorem ybyte6 (a b c d e : Int32) (r : List zV) (dd : Nat) (h : zH) : ∃ m, yrun m dd yT18.1 (.inl a :: .inl b :: .inl c :: .inl d :: .inl e :: .inl 6 :: r) h = some (some (.inl (yby (yar a b c d e) 6)), h) := by
  obtain ⟨m, e1⟩ := ybhd a b c d e 6 r 13 dd h 6 (by decide) (by decide)
  refine ⟨13 + m, e1.trans ((ybtl a b c d e 6 _ r 0 dd h).trans ?_)⟩
  unfold yby
  rw [show ((Int8.ofInt 24).toInt32 - (Int8.ofInt 8).toInt32 * ((6 : Int32) - 6 / Int32.ofInt 4 * Int32.ofInt 4)) &&& 31 = Int32.ofNat (24 - 8 * (6 % 4)) &&& 31 by decide +kernel, show (Int16.ofInt 255).toInt32 = 255 by decide +kernel]
theorem ybyte7 (a b c d e : Int32) (r : List zV) (dd : Nat) (h : zH) : ∃ m, yrun m dd yT19.1 (.inl a :: .inl b :: .inl c :: .inl d :: .inl e :: .inl 7 :: r) h = some (some (.inl (yby (yar a b c d e) 7)), h) := by
  obtain ⟨m, e1⟩ := ybhd a b c d e 7 r 13 dd h 7 (by decide) (by decide)
  refine ⟨13 + m, e1.trans ((ybtl a b c d e 7 _ r 0 dd h).trans ?_)⟩
  unfold yby
  rw [show ((Int8.ofInt 24).toInt32 - (Int8.ofInt 8).toInt32 * ((7 : Int32) - 7 / Int32.ofInt 4 * Int32.ofInt 4)) &&& 31 = Int32.ofNat (24 - 8 * (7 % 4)) &&& 31 by decide +kernel, show (Int16.ofInt 255).toInt32 = 255 by decide +kernel]
theorem ybyte8 (a b c d e : Int32) (r : List zV) (dd : Nat) (h : zH) : ∃ m, yrun m dd yT20.1 (.inl a :: .inl b :: .inl c :: .inl d :: .inl e :: .inl 8 :: r) h = some (some (.inl (yby (yar a b c d e) 8)), h) := by
  obtain ⟨m, e1⟩ := ybhd a b c d e 8 r 13 dd h 8 (by decide) (by decide)
  refine ⟨13 + m, e1.trans ((ybtl a b c d e 8 _ r 0 dd h).trans ?_)⟩
  unfold yby
  rw [show ((Int8.ofInt 24).toInt32 - (Int8.ofInt 8).toInt32 * ((8 : Int32) - 8 / Int32.ofInt 4 * Int32.ofInt 4)) &&& 31 = Int32.ofNat (24 - 8 * (8 % 4)) &&& 31 by decide +kernel, show (Int16.ofInt 255).toInt32 = 255 by decide +kernel]
theorem ybyte9 (a b c d e : Int32) (r : List zV) (dd : Nat) (h : zH) : ∃ m, yrun m dd yT21.1 (.inl a :: .inl b :: .inl c :: .inl d :: .inl e :: .inl 9 :: r) h = some (some (.inl (yby (yar a b c d e) 9)), h) := by
  obtain ⟨m, e1⟩ := ybhd a b c d e 9 r 13 dd h 9 (by decide) (by decide)
  refine ⟨13 + m, e1.trans ((ybtl a b c d e 9 _ r 0 dd h).trans ?_)⟩
  unfold yby
  rw [show ((Int8.ofInt 24).toInt32 - (Int8.ofInt 8).toInt32 * ((9 : Int32) - 9 / Int32.ofInt 4 * Int32.ofInt 4)) &&& 31 = Int32.ofNat (24 - 8 * (9 % 4)) &&& 31 by decide +kernel, show (Int16.ofInt 255).toInt32 = 255 by decide +kernel]
theorem ybyte10 (a b c d e : Int32) (r : List zV) (dd : Nat) (h : zH) : ∃ m, yrun m dd yT22.1 (.inl a :: .inl b :: .inl c :: .inl d :: .inl e :: .inl 10 :: r) h = some (some (.inl (yby (yar a b c d e) 10)), h) := by
  obtain ⟨m, e1⟩ := ybhd a b c d e 10 r 13 dd h 10 (by decide) (by decide)
  refine ⟨13 + m, e1.trans ((ybtl a b c d e 10 _ r 0 dd h).trans ?_)⟩
  unfold yby
  rw [show ((Int8.ofInt 24).toInt32 - (Int8.ofInt 8).toInt32 * ((10 : Int32) - 10 / Int32.ofInt 4 * Int32.ofInt 4)) &&& 31 = Int32.ofNat (24 - 8 * (10 % 4)) &&& 31 by decide +kernel, show (Int16.ofInt 255).toInt32 = 255 by decide +kernel]
theorem ybyte11 (a b c d e : Int32) (r : List zV) (dd : Nat) (h : zH) : ∃ m, yrun m dd yT23.1 (.inl a :: .inl b :: .inl c :: .inl d :: .inl e :: .inl 11 :: r) h = some (some (.inl (yby (yar a b c d e) 11)), h) := by
  obtain ⟨m, e1⟩ := ybhd a b c d e 11 r 13 dd h 11 (by decide) (by decide)
  refine ⟨13 + m, e1.trans ((ybtl a b c d e 11 _ r 0 dd h).trans ?_)⟩
  unfold yby
  rw [show ((Int8.ofInt 24).toInt32 - (Int8.ofInt 8).toInt32 * ((11 : Int32) - 11 / Int32.ofInt 4 * Int32.ofInt 4)) &&& 31 = Int32.ofNat (24 - 8 * (11 % 4)) &&& 31 by decide +kernel, show (Int16.ofInt 255).toInt32 = 255 by decide +kernel]
theorem ybyte12 (a b c d e : Int32) (r : List zV) (dd : Nat) (h : zH) : ∃ m, yrun m dd yT24.1 (.inl a :: .inl b :: .inl c :: .inl d :: .inl e :: .inl 12 :: r) h = some (some (.inl (yby (yar a b c d e) 12)), h) := by
  obtain ⟨m, e1⟩ := ybhd a b c d e 12 r 13 dd h 12 (by decide) (by decide)
  refine ⟨13 + m, e1.trans ((ybtl a b c d e 12 _ r 0 dd h).trans ?_)⟩
  unfold yby
  rw [show ((Int8.ofInt 24).toInt32 - (Int8.ofInt 8).toInt32 * ((12 : Int32) - 12 / Int32.ofInt 4 * Int32.ofInt 4)) &&& 31 = Int32.ofNat (24 - 8 * (12 % 4)) &&& 31 by decide +kernel, show (Int16.ofInt 255).toInt32 = 255 by decide +kernel]
theorem ybyte13 (a b c d e : Int32) (r : List zV) (dd : Nat) (h : zH) : ∃ m, yrun m dd yT25.1 (.inl a :: .inl b :: .inl c :: .inl d :: .inl e :: .inl 13 :: r) h = some (some (.inl (yby (yar a b c d e) 13)), h) := by
  obtain ⟨m, e1⟩ := ybhd a b c d e 13 r 13 dd h 13 (by decide) (by decide)
  refine ⟨13 + m, e1.trans ((ybtl a b c d e 13 _ r 0 dd h).trans ?_)⟩
  unfold yby
  rw [show ((Int8.ofInt 24).toInt32 - (Int8.ofInt 8).toInt32 * ((13 : Int32) - 13 / Int32.ofInt 4 * Int32.ofInt 4)) &&& 31 = Int32.ofNat (24 - 8 * (13 % 4)) &&& 31 by decide +kernel, show (Int16.ofInt 255).toInt32 = 255 by decide +kernel]
theorem ybyte14 (a b c d e : Int32) (r : List zV) (dd : Nat) (h : zH) : ∃ m, yrun m dd yT26.1 (.inl a :: .inl b :: .inl c :: .inl d :: .inl e :: .inl 14 :: r) h = some (some (.inl (yby (yar a b c d e) 14)), h) := by
  obtain ⟨m, e1⟩ := ybhd a b c d e 14 r 13 dd h 14 (by decide) (by decide)
  refine ⟨13 + m, e1.trans ((ybtl a b c d e 14 _ r 0 dd h).trans ?_)⟩
  unfold yby
  rw [show ((Int8.ofInt 24).toInt32 - (Int8.ofInt 8).toInt32 * ((14 : Int32) - 14 / Int32.ofInt 4 * Int32.ofInt 4)) &&& 31 = Int32.ofNat (24 - 8 * (14 % 4)) &&& 31 by decide +kernel, show (Int16.ofInt 255).toInt32 = 255 by decide +kernel]
theorem ybyte15 (a b c d e : Int32) (r : List zV) (dd : Nat) (h : zH) : ∃ m, yrun m dd yT27.1 (.inl a :: .inl b :: .inl c :: .inl d :: .inl e :: .inl 15 :: r) h = some (some (.inl (yby (yar a b c d e) 15)), h) := by
  obtain ⟨m, e1⟩ := ybhd a b c d e 15 r 13 dd h 15 (by decide) (by decide)
  refine ⟨13 + m, e1.trans ((ybtl a b c d e 15 _ r 0 dd h).trans ?_)⟩
  unfold yby
  rw [show ((Int8.ofInt 24).toInt32 - (Int8.ofInt 8).toInt32 * ((15 : Int32) - 15 / Int32.ofInt 4 * Int32.ofInt 4)) &&& 31 = Int32.ofNat (24 - 8 * (15 % 4)) &&& 31 by decide +kernel, show (Int16.ofInt 255).toInt32 = 255 by decide +kernel]
theorem ybyte16 (a b c d e : Int32) (r : List zV) (dd : Nat) (h : zH) : ∃ m, yrun m dd yT28.1 (.inl a :: .inl b :: .inl c :: .inl d :: .inl e :: .inl 16 :: r) h = some (some (.inl (yby (yar a b c d e) 16)), h) := by
  obtain ⟨m, e1⟩ := ybhd a b c d e 16 r 13 dd h 16 (by decide) (by decide)
  refine ⟨13 + m, e1.trans ((ybtl a b c d e 16 _ r 0 dd h).trans ?_)⟩
  unfold yby
  rw [show ((Int8.ofInt 24).toInt32 - (Int8.ofInt 8).toInt32 * ((16 : Int32) - 16 / Int32.ofInt 4 * Int32.ofInt 4)) &&& 31 = Int32.ofNat (24 - 8 * (16 % 4)) &&& 31 by decide +kernel, show (Int16.ofInt 255).toInt32 = 255 by decide +kernel]
theorem ybyte17 (a b c d e : Int32) (r : List zV) (dd : Nat) (h : zH) : ∃ m, yrun m dd yT29.1 (.inl a :: .inl b :: .inl c :: .inl d :: .inl e :: .inl 17 :: r) h = some (some (.inl (yby (yar a b c d e) 17)), h) := by
  obtain ⟨m, e1⟩ := ybhd a b c d e 17 r 13 dd h 17 (by decide) (by decide)
  refine ⟨13 + m, e1.trans ((ybtl a b c d e 17 _ r 0 dd h).trans ?_)⟩
  unfold yby
  rw [show ((Int8.ofInt 24).toInt32 - (Int8.ofInt 8).toInt32 * ((17 : Int32) - 17 / Int32.ofInt 4 * Int32.ofInt 4)) &&& 31 = Int32.ofNat (24 - 8 * (17 % 4)) &&& 31 by decide +kernel, show (Int16.ofInt 255).toInt32 = 255 by decide +kernel]
theorem ybyte18 (a b c d e : Int32) (r : List zV) (dd : Nat) (h : zH) : ∃ m, yrun m dd yT30.1 (.inl a :: .inl b :: .inl c :: .inl d :: .inl e :: .inl 18 :: r) h = some (some (.inl (yby (yar a b c d e) 18)), h) := by
  obtain ⟨m, e1⟩ := ybhd a b c d e 18 r 13 dd h 18 (by decide) (by decide)
  refine ⟨13 + m, e1.trans ((ybtl a b c d e 18 _ r 0 dd h).trans ?_)⟩
  unfold yby
  rw [show ((Int8.ofInt 24).toInt32 - (Int8.ofInt 8).toInt32 * ((18 : Int32) - 18 / Int32.ofInt 4 * Int32.ofInt 4)) &&& 31 = Int32.ofNat (24 - 8 * (18 % 4)) &&& 31 by decide +kernel, show (Int16.ofInt 255).toInt32 = 255 by decide +kernel]
theorem ybyte19 (a b c d e : Int32) (r : List zV) (dd : Nat) (h : zH) : ∃ m, yrun m dd yT31.1 (.inl a :: .inl b :: .inl c :: .inl d :: .inl e :: .inl 19 :: r) h = some (some (.inl (yby (yar a b c d e) 19)), h) := by
  obtain ⟨m, e1⟩ := ybhd a b c d e 19 r 13 dd h 19 (by decide) (by decide)
  refine ⟨13 + m, e1.trans ((ybtl a b c d e 19 _ r 0 dd h).trans ?_)⟩
  unfold yby
  rw [show ((Int8.ofInt 24).toInt32 - (Int8.ofInt 8).toInt32 * ((19 : Int32) - 19 / Int32.ofInt 4 * Int32.ofInt 4)) &&& 31 = Int32.ofNat (24 - 8 * (19 % 4)) &&& 31 by decide +kernel, show (Int16.ofInt 255).toInt32 = 255 by decide +kernel]
theorem yby_c {ar ar' : Nat → Int32} (h0 : ar 0 = ar' 0) (h1 : ar 1 = ar' 1) (h2 : ar 2 = ar' 2) (h3 : ar 3 = ar' 3) (h4 : ar 4 = ar' 4) (k : Nat) : yby ar k = yby ar' k := by
  unfold yby ybw
  rw [h0, h1, h2, h3, h4]
theorem yby_b (ar : Nat → Int32) (k : Nat) : 0 ≤ (yby ar k).toInt ∧ (yby ar k).toInt ≤ 255 := by
  unfold yby
  exact sand32 _ _ (by decide)
theorem yT12_ok {t s : Nat} (ht : t < 5) {c0 v0 : Nat → Int} {ar : Nat → Int32} : ySum (yGv t s c0 v0 ar) yT12 := by
  intro args h ρ ρ0 hG hM d hd
  obtain ⟨-, ⟨⟨x0, x1, x2⟩, ⟨y0, y1, y2⟩, ⟨z0, z1, z2⟩, ⟨w0, w1, w2⟩, ⟨u0, u1, u2⟩, ⟨k0, k1, k2⟩, m0, m1, m2, m3, m4, m5, -⟩, ⟨-, -, -, -, -, b5, -⟩, ⟨e0, f0, e1, f1, e2, f2, e3, f3, e4, f4, -⟩, ⟨-, -, -, -, -, -, -, -, -, -, -, p11, -⟩, -⟩ := yun hM
  have g0 : (ar 0).toInt = sv ρ (sY 6) := ysm_gu (a := 15) m0
  have g1 : (ar 1).toInt = sv ρ (sY 7) := ysm_gu (a := 16) m1
  have g2 : (ar 2).toInt = sv ρ (sY 8) := ysm_gu (a := 17) m2
  have g3 : (ar 3).toInt = sv ρ (sY 9) := ysm_gu (a := 18) m3
  have g4 : (ar 4).toInt = sv ρ (sY 10) := ysm_gu (a := 19) m4
  have g5 : (if yby ar 0 = 0 then (0 : Int) else 1) = sv ρ (sY 11) := ysm_gu (a := 20) m5
  rw [sY_v] at g0 g1 g2 g3 g4 g5
  have x2 : x0.toInt = ρ 0 := x2
  have y2 : y0.toInt = ρ 1 := y2
  have z2 : z0.toInt = ρ 2 := z2
  have w2 : w0.toInt = ρ 3 := w2
  have u2 : u0.toInt = ρ 4 := u2
  have k2 : k0.toInt = ρ 5 := k2
  have b5 : 0 ≤ ρ 5 ∧ ρ 5 ≤ 0 := b5
  have e0 : 0 + (1 * ρ 0 + (-1 * ρ 6 + 0)) ≤ 0 := e0
  have f0 : 0 + (-1 * ρ 0 + (1 * ρ 6 + 0)) ≤ 0 := f0
  have e1 : 0 + (1 * ρ 1 + (-1 * ρ 7 + 0)) ≤ 0 := e1
  have f1 : 0 + (-1 * ρ 1 + (1 * ρ 7 + 0)) ≤ 0 := f1
  have e2 : 0 + (1 * ρ 2 + (-1 * ρ 8 + 0)) ≤ 0 := e2
  have f2 : 0 + (-1 * ρ 2 + (1 * ρ 8 + 0)) ≤ 0 := f2
  have e3 : 0 + (1 * ρ 3 + (-1 * ρ 9 + 0)) ≤ 0 := e3
  have f3 : 0 + (-1 * ρ 3 + (1 * ρ 9 + 0)) ≤ 0 := f3
  have e4 : 0 + (1 * ρ 4 + (-1 * ρ 10 + 0)) ≤ 0 := e4
  have f4 : 0 + (-1 * ρ 4 + (1 * ρ 10 + 0)) ≤ 0 := f4
  have p11 : ρ0 12 = ρ 11 := p11
  have q0 : x0 = ar 0 := Int32.toInt_inj.mp (by omega)
  have q1 : y0 = ar 1 := Int32.toInt_inj.mp (by omega)
  have q2 : z0 = ar 2 := Int32.toInt_inj.mp (by omega)
  have q3 : w0 = ar 3 := Int32.toInt_inj.mp (by omega)
  have q4 : u0 = ar 4 := Int32.toInt_inj.mp (by omega)
  have q5 : k0 = 0 := Int32.toInt_inj.mp (by rw [k2]; show _ = (0 : Int); omega)
  obtain ⟨r1, rfl, s1⟩ := yarg x1
  rw [s1 1 (by decide)] at y1
  rw [s1 2 (by decide)] at z1
  rw [s1 3 (by decide)] at w1
  rw [s1 4 (by decide)] at u1
  rw [s1 5 (by decide)] at k1
  obtain ⟨r2, rfl, s2⟩ := yarg y1
  rw [s2 2 (by decide)] at z1
  rw [s2 3 (by decide)] at w1
  rw [s2 4 (by decide)] at u1
  rw [s2 5 (by decide)] at k1
  obtain ⟨r3, rfl, s3⟩ := yarg z1
  rw [s3 3 (by decide)] at w1
  rw [s3 4 (by decide)] at u1
  rw [s3 5 (by decide)] at k1
  obtain ⟨r4, rfl, s4⟩ := yarg w1
  rw [s4 4 (by decide)] at u1
  rw [s4 5 (by decide)] at k1
  obtain ⟨r5, rfl, s5⟩ := yarg u1
  rw [s5 5 (by decide)] at k1
  obtain ⟨r6, rfl, s6⟩ := yarg k1
  obtain ⟨mm, run⟩ := ybyte0 x0 y0 z0 w0 u0 r6 d h
  rw [← q5, yby_c (ar' := ar) (by exact q0) (by exact q1) (by exact q2) (by exact q3) (by exact q4)] at run
  have bb := yby_b ar 0
  by_cases hz : yby ar 0 = 0
  · rw [if_pos hz] at g5
    refine ⟨mm, _, h, run, hG, fun _ _ hne => absurd rfl hne, _, List.mem_cons_self .., yexM (fun j => ρ0 (j + 1)) (fun j _ => rfl) ya0 (ya1 ?_ ya0) ya0 ?_⟩
    · show 0 + (1 * ρ0 12 + 0) ≤ 0
      rw [p11]
      omega
    · show (yby ar 0).toInt = 0 + 0
      rw [hz]
      rfl
  · rw [if_neg hz] at g5
    have hz1 : (yby ar 0).toInt ≠ 0 := fun e => hz (Int32.toInt_inj.mp e)
    refine ⟨mm, _, h, run, hG, fun _ _ hne => absurd rfl hne, _, List.mem_cons_of_mem _ (List.mem_cons_self ..), yexM (fun j => if j = 12 then (yby ar 0).toInt else ρ0 (j + 1)) ?_ (ya1 ?_ ya0) (ya1 ?_ ya0) ya0 ?_⟩
    · intro j hj
      have hj : j < 12 := hj
      show (if j = 12 then _ else ρ0 (j + 1)) = _
      rw [if_neg (by omega)]
    · show 1 ≤ (yby ar 0).toInt ∧ (yby ar 0).toInt ≤ 255
      omega
    · show 1 + (-1 * ρ0 12 + 0) ≤ 0
      rw [p11]
      omega
    · show (yby ar 0).toInt = 0 + (1 * (yby ar 0).toInt + 0)
      omega
theorem yT13_ok {t s : Nat} (ht : t < 5) {c0 v0 : Nat → Int} {ar : Nat → Int32} : ySum (yGv t s c0 v0 ar) yT13 := by
  intro args h ρ ρ0 hG hM d hd
  obtain ⟨-, ⟨⟨x0, x1, x2⟩, ⟨y0, y1, y2⟩, ⟨z0, z1, z2⟩, ⟨w0, w1, w2⟩, ⟨u0, u1, u2⟩, ⟨k0, k1, k2⟩, m0, m1, m2, m3, m4, m5, -⟩, ⟨-, -, -, -, -, b5, -⟩, ⟨e0, f0, e1, f1, e2, f2, e3, f3, e4, f4, -⟩, ⟨-, -, -, -, -, -, -, -, -, -, -, p11, -⟩, -⟩ := yun hM
  have g0 : (ar 0).toInt = sv ρ (sY 6) := ysm_gu (a := 15) m0
  have g1 : (ar 1).toInt = sv ρ (sY 7) := ysm_gu (a := 16) m1
  have g2 : (ar 2).toInt = sv ρ (sY 8) := ysm_gu (a := 17) m2
  have g3 : (ar 3).toInt = sv ρ (sY 9) := ysm_gu (a := 18) m3
  have g4 : (ar 4).toInt = sv ρ (sY 10) := ysm_gu (a := 19) m4
  have g5 : (if yby ar 1 = 0 then (0 : Int) else 1) = sv ρ (sY 11) := ysm_gu (a := 21) m5
  rw [sY_v] at g0 g1 g2 g3 g4 g5
  have x2 : x0.toInt = ρ 0 := x2
  have y2 : y0.toInt = ρ 1 := y2
  have z2 : z0.toInt = ρ 2 := z2
  have w2 : w0.toInt = ρ 3 := w2
  have u2 : u0.toInt = ρ 4 := u2
  have k2 : k0.toInt = ρ 5 := k2
  have b5 : 1 ≤ ρ 5 ∧ ρ 5 ≤ 1 := b5
  have e0 : 0 + (1 * ρ 0 + (-1 * ρ 6 + 0)) ≤ 0 := e0
  have f0 : 0 + (-1 * ρ 0 + (1 * ρ 6 + 0)) ≤ 0 := f0
  have e1 : 0 + (1 * ρ 1 + (-1 * ρ 7 + 0)) ≤ 0 := e1
  have f1 : 0 + (-1 * ρ 1 + (1 * ρ 7 + 0)) ≤ 0 := f1
  have e2 : 0 + (1 * ρ 2 + (-1 * ρ 8 + 0)) ≤ 0 := e2
  have f2 : 0 + (-1 * ρ 2 + (1 * ρ 8 + 0)) ≤ 0 := f2
  have e3 : 0 + (1 * ρ 3 + (-1 * ρ 9 + 0)) ≤ 0 := e3
  have f3 : 0 + (-1 * ρ 3 + (1 * ρ 9 + 0)) ≤ 0 := f3
  have e4 : 0 + (1 * ρ 4 + (-1 * ρ 10 + 0)) ≤ 0 := e4
  have f4 : 0 + (-1 * ρ 4 + (1 * ρ 10 + 0)) ≤ 0 := f4
  have p11 : ρ0 12 = ρ 11 := p11
  have q0 : x0 = ar 0 := Int32.toInt_inj.mp (by omega)
  have q1 : y0 = ar 1 := Int32.toInt_inj.mp (by omega)
  have q2 : z0 = ar 2 := Int32.toInt_inj.mp (by omega)
  have q3 : w0 = ar 3 := Int32.toInt_inj.mp (by omega)
  have q4 : u0 = ar 4 := Int32.toInt_inj.mp (by omega)
  have q5 : k0 = 1 := Int32.toInt_inj.mp (by rw [k2]; show _ = (1 : Int); omega)
  obtain ⟨r1, rfl, s1⟩ := yarg x1
  rw [s1 1 (by decide)] at y1
  rw [s1 2 (by decide)] at z1
  rw [s1 3 (by decide)] at w1
  rw [s1 4 (by decide)] at u1
  rw [s1 5 (by decide)] at k1
  obtain ⟨r2, rfl, s2⟩ := yarg y1
  rw [s2 2 (by decide)] at z1
  rw [s2 3 (by decide)] at w1
  rw [s2 4 (by decide)] at u1
  rw [s2 5 (by decide)] at k1
  obtain ⟨r3, rfl, s3⟩ := yarg z1
  rw [s3 3 (by decide)] at w1
  rw [s3 4 (by decide)] at u1
  rw [s3 5 (by decide)] at k1
  obtain ⟨r4, rfl, s4⟩ := yarg w1
  rw [s4 4 (by decide)] at u1
  rw [s4 5 (by decide)] at k1
  obtain ⟨r5, rfl, s5⟩ := yarg u1
  rw [s5 5 (by decide)] at k1
  obtain ⟨r6, rfl, s6⟩ := yarg k1
  obtain ⟨mm, run⟩ := ybyte1 x0 y0 z0 w0 u0 r6 d h
  rw [← q5, yby_c (ar' := ar) (by exact q0) (by exact q1) (by exact q2) (by exact q3) (by exact q4)] at run
  have bb := yby_b ar 1
  by_cases hz : yby ar 1 = 0
  · rw [if_pos hz] at g5
    refine ⟨mm, _, h, run, hG, fun _ _ hne => absurd rfl hne, _, List.mem_cons_self .., yexM (fun j => ρ0 (j + 1)) (fun j _ => rfl) ya0 (ya1 ?_ ya0) ya0 ?_⟩
    · show 0 + (1 * ρ0 12 + 0) ≤ 0
      rw [p11]
      omega
    · show (yby ar 1).toInt = 0 + 0
      rw [hz]
      rfl
  · rw [if_neg hz] at g5
    have hz1 : (yby ar 1).toInt ≠ 0 := fun e => hz (Int32.toInt_inj.mp e)
    refine ⟨mm, _, h, run, hG, fun _ _ hne => absurd rfl hne, _, List.mem_cons_of_mem _ (List.mem_cons_self ..), yexM (fun j => if j = 12 then (yby ar 1).toInt else ρ0 (j + 1)) ?_ (ya1 ?_ ya0) (ya1 ?_ ya0) ya0 ?_⟩
    · intro j hj
      have hj : j < 12 := hj
      show (if j = 12 then _ else ρ0 (j + 1)) = _
      rw [if_neg (by omega)]
    · show 1 ≤ (yby ar 1).toInt ∧ (yby ar 1).toInt ≤ 255
      omega
    · show 1 + (-1 * ρ0 12 + 0) ≤ 0
      rw [p11]
      omega
    · show (yby ar 1).toInt = 0 + (1 * (yby ar 1).toInt + 0)
      omega
theorem yT14_ok {t s : Nat} (ht : t < 5) {c0 v0 : Nat → Int} {ar : Nat → Int32} : ySum (yGv t s c0 v0 ar) yT14 := by
  intro args h ρ ρ0 hG hM d hd
  obtain ⟨-, ⟨⟨x0, x1, x2⟩, ⟨y0, y1, y2⟩, ⟨z0, z1, z2⟩, ⟨w0, w1, w2⟩, ⟨u0, u1, u2⟩, ⟨k0, k1, k2⟩, m0, m1, m2, m3, m4, m5, -⟩, ⟨-, -, -, -, -, b5, -⟩, ⟨e0, f0, e1, f1, e2, f2, e3, f3, e4, f4, -⟩, ⟨-, -, -, -, -, -, -, -, -, -, -, p11, -⟩, -⟩ := yun hM
  have g0 : (ar 0).toInt = sv ρ (sY 6) := ysm_gu (a := 15) m0
  have g1 : (ar 1).toInt = sv ρ (sY 7) := ysm_gu (a := 16) m1
  have g2 : (ar 2).toInt = sv ρ (sY 8) := ysm_gu (a := 17) m2
  have g3 : (ar 3).toInt = sv ρ (sY 9) := ysm_gu (a := 18) m3
  have g4 : (ar 4).toInt = sv ρ (sY 10) := ysm_gu (a := 19) m4
  have g5 : (if yby ar 2 = 0 then (0 : Int) else 1) = sv ρ (sY 11) := ysm_gu (a := 22) m5
  rw [sY_v] at g0 g1 g2 g3 g4 g5
  have x2 : x0.toInt = ρ 0 := x2
  have y2 : y0.toInt = ρ 1 := y2
  have z2 : z0.toInt = ρ 2 := z2
  have w2 : w0.toInt = ρ 3 := w2
  have u2 : u0.toInt = ρ 4 := u2
  have k2 : k0.toInt = ρ 5 := k2
  have b5 : 2 ≤ ρ 5 ∧ ρ 5 ≤ 2 := b5
  have e0 : 0 + (1 * ρ 0 + (-1 * ρ 6 + 0)) ≤ 0 := e0
  have f0 : 0 + (-1 * ρ 0 + (1 * ρ 6 + 0)) ≤ 0 := f0
  have e1 : 0 + (1 * ρ 1 + (-1 * ρ 7 + 0)) ≤ 0 := e1
  have f1 : 0 + (-1 * ρ 1 + (1 * ρ 7 + 0)) ≤ 0 := f1
  have e2 : 0 + (1 * ρ 2 + (-1 * ρ 8 + 0)) ≤ 0 := e2
  have f2 : 0 + (-1 * ρ 2 + (1 * ρ 8 + 0)) ≤ 0 := f2
  have e3 : 0 + (1 * ρ 3 + (-1 * ρ 9 + 0)) ≤ 0 := e3
  have f3 : 0 + (-1 * ρ 3 + (1 * ρ 9 + 0)) ≤ 0 := f3
  have e4 : 0 + (1 * ρ 4 + (-1 * ρ 10 + 0)) ≤ 0 := e4
  have f4 : 0 + (-1 * ρ 4 + (1 * ρ 10 + 0)) ≤ 0 := f4
  have p11 : ρ0 12 = ρ 11 := p11
  have q0 : x0 = ar 0 := Int32.toInt_inj.mp (by omega)
  have q1 : y0 = ar 1 := Int32.toInt_inj.mp (by omega)
  have q2 : z0 = ar 2 := Int32.toInt_inj.mp (by omega)
  have q3 : w0 = ar 3 := Int32.toInt_inj.mp (by omega)
  have q4 : u0 = ar 4 := Int32.toInt_inj.mp (by omega)
  have q5 : k0 = 2 := Int32.toInt_inj.mp (by rw [k2]; show _ = (2 : Int); omega)
  obtain ⟨r1, rfl, s1⟩ := yarg x1
  rw [s1 1 (by decide)] at y1
  rw [s1 2 (by decide)] at z1
  rw [s1 3 (by decide)] at w1
  rw [s1 4 (by decide)] at u1
  rw [s1 5 (by decide)] at k1
  obtain ⟨r2, rfl, s2⟩ := yarg y1
  rw [s2 2 (by decide)] at z1
  rw [s2 3 (by decide)] at w1
  rw [s2 4 (by decide)] at u1
  rw [s2 5 (by decide)] at k1
  obtain ⟨r3, rfl, s3⟩ := yarg z1
  rw [s3 3 (by decide)] at w1
  rw [s3 4 (by decide)] at u1
  rw [s3 5 (by decide)] at k1
  obtain ⟨r4, rfl, s4⟩ := yarg w1
  rw [s4 4 (by decide)] at u1
  rw [s4 5 (by decide)] at k1
  obtain ⟨r5, rfl, s5⟩ := yarg u1
  rw [s5 5 (by decide)] at k1
  obtain ⟨r6, rfl, s6⟩ := yarg k1
  obtain ⟨mm, run⟩ := ybyte2 x0 y0 z0 w0 u0 r6 d h
  rw [← q5, yby_c (ar' := ar) (by exact q0) (by exact q1) (by exact q2) (by exact q3) (by exact q4)] at run
  have bb := yby_b ar 2
  by_cases hz : yby ar 2 = 0
  · rw [if_pos hz] at g5
    refine ⟨mm, _, h, run, hG, fun _ _ hne => absurd rfl hne, _, List.mem_cons_self .., yexM (fun j => ρ0 (j + 1)) (fun j _ => rfl) ya0 (ya1 ?_ ya0) ya0 ?_⟩
    · show 0 + (1 * ρ0 12 + 0) ≤ 0
      rw [p11]
      omega
    · show (yby ar 2).toInt = 0 + 0
      rw [hz]
      rfl
  · rw [if_neg hz] at g5
    have hz1 : (yby ar 2).toInt ≠ 0 := fun e => hz (Int32.toInt_inj.mp e)
    refine ⟨mm, _, h, run, hG, fun _ _ hne => absurd rfl hne, _, List.mem_cons_of_mem _ (List.mem_cons_self ..), yexM (fun j => if j = 12 then (yby ar 2).toInt else ρ0 (j + 1)) ?_ (ya1 ?_ ya0) (ya1 ?_ ya0) ya0 ?_⟩
    · intro j hj
      have hj : j < 12 := hj
      show (if j = 12 then _ else ρ0 (j + 1)) = _
      rw [if_neg (by omega)]
    · show 1 ≤ (yby ar 2).toInt ∧ (yby ar 2).toInt ≤ 255
      omega
    · show 1 + (-1 * ρ0 12 + 0) ≤ 0
      rw [p11]
      omega
    · show (yby ar 2).toInt = 0 + (1 * (yby ar 2).toInt + 0)
      omega
theorem yT15_ok {t s : Nat} (ht : t < 5) {c0 v0 : Nat → Int} {ar : Nat → Int32} : ySum (yGv t s c0 v0 ar) yT15 := by
  intro args h ρ ρ0 hG hM d hd
  obtain ⟨-, ⟨⟨x0, x1, x2⟩, ⟨y0, y1, y2⟩, ⟨z0, z1, z2⟩, ⟨w0, w1, w2⟩, ⟨u0, u1, u2⟩, ⟨k0, k1, k2⟩, m0, m1, m2, m3, m4, m5, -⟩, ⟨-, -, -, -, -, b5, -⟩, ⟨e0, f0, e1, f1, e2, f2, e3, f3, e4, f4, -⟩, ⟨-, -, -, -, -, -, -, -, -, -, -, p11, -⟩, -⟩ := yun hM
  have g0 : (ar 0).toInt = sv ρ (sY 6) := ysm_gu (a := 15) m0
  have g1 : (ar 1).toInt = sv ρ (sY 7) := ysm_gu (a := 16) m1
  have g2 : (ar 2).toInt = sv ρ (sY 8) := ysm_gu (a := 17) m2
  have g3 : (ar 3).toInt = sv ρ (sY 9) := ysm_gu (a := 18) m3
  have g4 : (ar 4).toInt = sv ρ (sY 10) := ysm_gu (a := 19) m4
  have g5 : (if yby ar 3 = 0 then (0 : Int) else 1) = sv ρ (sY 11) := ysm_gu (a := 23) m5
  rw [sY_v] at g0 g1 g2 g3 g4 g5
  have x2 : x0.toInt = ρ 0 := x2
  have y2 : y0.toInt = ρ 1 := y2
  have z2 : z0.toInt = ρ 2 := z2
  have w2 : w0.toInt = ρ 3 := w2
  have u2 : u0.toInt = ρ 4 := u2
  have k2 : k0.toInt = ρ 5 := k2
  have b5 : 3 ≤ ρ 5 ∧ ρ 5 ≤ 3 := b5
  have e0 : 0 + (1 * ρ 0 + (-1 * ρ 6 + 0)) ≤ 0 := e0
  have f0 : 0 + (-1 * ρ 0 + (1 * ρ 6 + 0)) ≤ 0 := f0
  have e1 : 0 + (1 * ρ 1 + (-1 * ρ 7 + 0)) ≤ 0 := e1
  have f1 : 0 + (-1 * ρ 1 + (1 * ρ 7 + 0)) ≤ 0 := f1
  have e2 : 0 + (1 * ρ 2 + (-1 * ρ 8 + 0)) ≤ 0 := e2
  have f2 : 0 + (-1 * ρ 2 + (1 * ρ 8 + 0)) ≤ 0 := f2
  have e3 : 0 + (1 * ρ 3 + (-1 * ρ 9 + 0)) ≤ 0 := e3
  have f3 : 0 + (-1 * ρ 3 + (1 * ρ 9 + 0)) ≤ 0 := f3
  have e4 : 0 + (1 * ρ 4 + (-1 * ρ 10 + 0)) ≤ 0 := e4
  have f4 : 0 + (-1 * ρ 4 + (1 * ρ 10 + 0)) ≤ 0 := f4
  have p11 : ρ0 12 = ρ 11 := p11
  have q0 : x0 = ar 0 := Int32.toInt_inj.mp (by omega)
  have q1 : y0 = ar 1 := Int32.toInt_inj.mp (by omega)
  have q2 : z0 = ar 2 := Int32.toInt_inj.mp (by omega)
  have q3 : w0 = ar 3 := Int32.toInt_inj.mp (by omega)
  have q4 : u0 = ar 4 := Int32.toInt_inj.mp (by omega)
  have q5 : k0 = 3 := Int32.toInt_inj.mp (by rw [k2]; show _ = (3 : Int); omega)
  obtain ⟨r1, rfl, s1⟩ := yarg x1
  rw [s1 1 (by decide)] at y1
  rw [s1 2 (by decide)] at z1
  rw [s1 3 (by decide)] at w1
  rw [s1 4 (by decide)] at u1
  rw [s1 5 (by decide)] at k1
  obtain ⟨r2, rfl, s2⟩ := yarg y1
  rw [s2 2 (by decide)] at z1
  rw [s2 3 (by decide)] at w1
  rw [s2 4 (by decide)] at u1
  rw [s2 5 (by decide)] at k1
  obtain ⟨r3, rfl, s3⟩ := yarg z1
  rw [s3 3 (by decide)] at w1
  rw [s3 4 (by decide)] at u1
  rw [s3 5 (by decide)] at k1
  obtain ⟨r4, rfl, s4⟩ := yarg w1
  rw [s4 4 (by decide)] at u1
  rw [s4 5 (by decide)] at k1
  obtain ⟨r5, rfl, s5⟩ := yarg u1
  rw [s5 5 (by decide)] at k1
  obtain ⟨r6, rfl, s6⟩ := yarg k1
  obtain ⟨mm, run⟩ := ybyte3 x0 y0 z0 w0 u0 r6 d h
  rw [← q5, yby_c (ar' := ar) (by exact q0) (by exact q1) (by exact q2) (by exact q3) (by exact q4)] at run
  have bb := yby_b ar 3
  by_cases hz : yby ar 3 = 0
  · rw [if_pos hz] at g5
    refine ⟨mm, _, h, run, hG, fun _ _ hne => absurd rfl hne, _, List.mem_cons_self .., yexM (fun j => ρ0 (j + 1)) (fun j _ => rfl) ya0 (ya1 ?_ ya0) ya0 ?_⟩
    · show 0 + (1 * ρ0 12 + 0) ≤ 0
      rw [p11]
      omega
    · show (yby ar 3).toInt = 0 + 0
      rw [hz]
      rfl
  · rw [if_neg hz] at g5
    have hz1 : (yby ar 3).toInt ≠ 0 := fun e => hz (Int32.toInt_inj.mp e)
    refine ⟨mm, _, h, run, hG, fun _ _ hne => absurd rfl hne, _, List.mem_cons_of_mem _ (List.mem_cons_self ..), yexM (fun j => if j = 12 then (yby ar 3).toInt else ρ0 (j + 1)) ?_ (ya1 ?_ ya0) (ya1 ?_ ya0) ya0 ?_⟩
    · intro j hj
      have hj : j < 12 := hj
      show (if j = 12 then _ else ρ0 (j + 1)) = _
      rw [if_neg (by omega)]
    · show 1 ≤ (yby ar 3).toInt ∧ (yby ar 3).toInt ≤ 255
      omega
    · show 1 + (-1 * ρ0 12 + 0) ≤ 0
      rw [p11]
      omega
    · show (yby ar 3).toInt = 0 + (1 * (yby ar 3).toInt + 0)
      omega
theorem yT16_ok {t s : Nat} (ht : t < 5) {c0 v0 : Nat → Int} {ar : Nat → Int32} : ySum (yGv t s c0 v0 ar) yT16 := by
  intro args h ρ ρ0 hG hM d hd
  obtain ⟨-, ⟨⟨x0, x1, x2⟩, ⟨y0, y1, y2⟩, ⟨z0, z1, z2⟩, ⟨w0, w1, w2⟩, ⟨u0, u1, u2⟩, ⟨k0, k1, k2⟩, m0, m1, m2, m3, m4, m5, -⟩, ⟨-, -, -, -, -, b5, -⟩, ⟨e0, f0, e1, f1, e2, f2, e3, f3, e4, f4, -⟩, ⟨-, -, -, -, -, -, -, -, -, -, -, p11, -⟩, -⟩ := yun hM
  have g0 : (ar 0).toInt = sv ρ (sY 6) := ysm_gu (a := 15) m0
  have g1 : (ar 1).toInt = sv ρ (sY 7) := ysm_gu (a := 16) m1
  have g2 : (ar 2).toInt = sv ρ (sY 8) := ysm_gu (a := 17) m2
  have g3 : (ar 3).toInt = sv ρ (sY 9) := ysm_gu (a := 18) m3
  have g4 : (ar 4).toInt = sv ρ (sY 10) := ysm_gu (a := 19) m4
  have g5 : (if yby ar 4 = 0 then (0 : Int) else 1) = sv ρ (sY 11) := ysm_gu (a := 24) m5
  rw [sY_v] at g0 g1 g2 g3 g4 g5
  have x2 : x0.toInt = ρ 0 := x2
  have y2 : y0.toInt = ρ 1 := y2
  have z2 : z0.toInt = ρ 2 := z2
  have w2 : w0.toInt = ρ 3 := w2
  have u2 : u0.toInt = ρ 4 := u2
  have k2 : k0.toInt = ρ 5 := k2
  have b5 : 4 ≤ ρ 5 ∧ ρ 5 ≤ 4 := b5
  have e0 : 0 + (1 * ρ 0 + (-1 * ρ 6 + 0)) ≤ 0 := e0
  have f0 : 0 + (-1 * ρ 0 + (1 * ρ 6 + 0)) ≤ 0 := f0
  have e1 : 0 + (1 * ρ 1 + (-1 * ρ 7 + 0)) ≤ 0 := e1
  have f1 : 0 + (-1 * ρ 1 + (1 * ρ 7 + 0)) ≤ 0 := f1
  have e2 : 0 + (1 * ρ 2 + (-1 * ρ 8 + 0)) ≤ 0 := e2
  have f2 : 0 + (-1 * ρ 2 + (1 * ρ 8 + 0)) ≤ 0 := f2
  have e3 : 0 + (1 * ρ 3 + (-1 * ρ 9 + 0)) ≤ 0 := e3
  have f3 : 0 + (-1 * ρ 3 + (1 * ρ 9 + 0)) ≤ 0 := f3
  have e4 : 0 + (1 * ρ 4 + (-1 * ρ 10 + 0)) ≤ 0 := e4
  have f4 : 0 + (-1 * ρ 4 + (1 * ρ 10 + 0)) ≤ 0 := f4
  have p11 : ρ0 12 = ρ 11 := p11
  have q0 : x0 = ar 0 := Int32.toInt_inj.mp (by omega)
  have q1 : y0 = ar 1 := Int32.toInt_inj.mp (by omega)
  have q2 : z0 = ar 2 := Int32.toInt_inj.mp (by omega)
  have q3 : w0 = ar 3 := Int32.toInt_inj.mp (by omega)
  have q4 : u0 = ar 4 := Int32.toInt_inj.mp (by omega)
  have q5 : k0 = 4 := Int32.toInt_inj.mp (by rw [k2]; show _ = (4 : Int); omega)
  obtain ⟨r1, rfl, s1⟩ := yarg x1
  rw [s1 1 (by decide)] at y1
  rw [s1 2 (by decide)] at z1
  rw [s1 3 (by decide)] at w1
  rw [s1 4 (by decide)] at u1
  rw [s1 5 (by decide)] at k1
  obtain ⟨r2, rfl, s2⟩ := yarg y1
  rw [s2 2 (by decide)] at z1
  rw [s2 3 (by decide)] at w1
  rw [s2 4 (by decide)] at u1
  rw [s2 5 (by decide)] at k1
  obtain ⟨r3, rfl, s3⟩ := yarg z1
  rw [s3 3 (by decide)] at w1
  rw [s3 4 (by decide)] at u1
  rw [s3 5 (by decide)] at k1
  obtain ⟨r4, rfl, s4⟩ := yarg w1
  rw [s4 4 (by decide)] at u1
  rw [s4 5 (by decide)] at k1
  obtain ⟨r5, rfl, s5⟩ := yarg u1
  rw [s5 5 (by decide)] at k1
  obtain ⟨r6, rfl, s6⟩ := yarg k1
  obtain ⟨mm, run⟩ := ybyte4 x0 y0 z0 w0 u0 r6 d h
  rw [← q5, yby_c (ar' := ar) (by exact q0) (by exact q1) (by exact q2) (by exact q3) (by exact q4)] at run
  have bb := yby_b ar 4
  by_cases hz : yby ar 4 = 0
  · rw [if_pos hz] at g5
    refine ⟨mm, _, h, run, hG, fun _ _ hne => absurd rfl hne, _, List.mem_cons_self .., yexM (fun j => ρ0 (j + 1)) (fun j _ => rfl) ya0 (ya1 ?_ ya0) ya0 ?_⟩
    · show 0 + (1 * ρ0 12 + 0) ≤ 0
      rw [p11]
      omega
    · show (yby ar 4).toInt = 0 + 0
      rw [hz]
      rfl
  · rw [if_neg hz] at g5
    have hz1 : (yby ar 4).toInt ≠ 0 := fun e => hz (Int32.toInt_inj.mp e)
    refine ⟨mm, _, h, run, hG, fun _ _ hne => absurd rfl hne, _, List.mem_cons_of_mem _ (List.mem_cons_self ..), yexM (fun j => if j = 12 then (yby ar 4).toInt else ρ0 (j + 1)) ?_ (ya1 ?_ ya0) (ya1 ?_ ya0) ya0 ?_⟩
    · intro j hj
      have hj : j < 12 := hj
      show (if j = 12 then _ else ρ0 (j + 1)) = _
      rw [if_neg (by omega)]
    · show 1 ≤ (yby ar 4).toInt ∧ (yby ar 4).toInt ≤ 255
      omega
    · show 1 + (-1 * ρ0 12 + 0) ≤ 0
      rw [p11]
      omega
    · show (yby ar 4).toInt = 0 + (1 * (yby ar 4).toInt + 0)
      omega
theorem yT17_ok {t s : Nat} (ht : t < 5) {c0 v0 : Nat → Int} {ar : Nat → Int32} : ySum (yGv t s c0 v0 ar) yT17 := by
  intro args h ρ ρ0 hG hM d hd
  obtain ⟨-, ⟨⟨x0, x1, x2⟩, ⟨y0, y1, y2⟩, ⟨z0, z1, z2⟩, ⟨w0, w1, w2⟩, ⟨u0, u1, u2⟩, ⟨k0, k1, k2⟩, m0, m1, m2, m3, m4, m5, -⟩, ⟨-, -, -, -, -, b5, -⟩, ⟨e0, f0, e1, f1, e2, f2, e3, f3, e4, f4, -⟩, ⟨-, -, -, -, -, -, -, -, -, -, -, p11, -⟩, -⟩ := yun hM
  have g0 : (ar 0).toInt = sv ρ (sY 6) := ysm_gu (a := 15) m0
  have g1 : (ar 1).toInt = sv ρ (sY 7) := ysm_gu (a := 16) m1
  have g2 : (ar 2).toInt = sv ρ (sY 8) := ysm_gu (a := 17) m2
  have g3 : (ar 3).toInt = sv ρ (sY 9) := ysm_gu (a := 18) m3
  have g4 : (ar 4).toInt = sv ρ (sY 10) := ysm_gu (a := 19) m4
  have g5 : (if yby ar 5 = 0 then (0 : Int) else 1) = sv ρ (sY 11) := ysm_gu (a := 25) m5
  rw [sY_v] at g0 g1 g2 g3 g4 g5
  have x2 : x0.toInt = ρ 0 := x2
  have y2 : y0.toInt = ρ 1 := y2
  have z2 : z0.toInt = ρ 2 := z2
  have w2 : w0.toInt = ρ 3 := w2
  have u2 : u0.toInt = ρ 4 := u2
  have k2 : k0.toInt = ρ 5 := k2
  have b5 : 5 ≤ ρ 5 ∧ ρ 5 ≤ 5 := b5
  have e0 : 0 + (1 * ρ 0 + (-1 * ρ 6 + 0)) ≤ 0 := e0
  have f0 : 0 + (-1 * ρ 0 + (1 * ρ 6 + 0)) ≤ 0 := f0
  have e1 : 0 + (1 * ρ 1 + (-1 * ρ 7 + 0)) ≤ 0 := e1
  have f1 : 0 + (-1 * ρ 1 + (1 * ρ 7 + 0)) ≤ 0 := f1
  have e2 : 0 + (1 * ρ 2 + (-1 * ρ 8 + 0)) ≤ 0 := e2
  have f2 : 0 + (-1 * ρ 2 + (1 * ρ 8 + 0)) ≤ 0 := f2
  have e3 : 0 + (1 * ρ 3 + (-1 * ρ 9 + 0)) ≤ 0 := e3
  have f3 : 0 + (-1 * ρ 3 + (1 * ρ 9 + 0)) ≤ 0 := f3
  have e4 : 0 + (1 * ρ 4 + (-1 * ρ 10 + 0)) ≤ 0 := e4
  have f4 : 0 + (-1 * ρ 4 + (1 * ρ 10 + 0)) ≤ 0 := f4
  have p11 : ρ0 12 = ρ 11 := p11
  have q0 : x0 = ar 0 := Int32.toInt_inj.mp (by omega)
  have q1 : y0 = ar 1 := Int32.toInt_inj.mp (by omega)
  have q2 : z0 = ar 2 := Int32.toInt_inj.mp (by omega)
  have q3 : w0 = ar 3 := Int32.toInt_inj.mp (by omega)
  have q4 : u0 = ar 4 := Int32.toInt_inj.mp (by omega)
  have q5 : k0 = 5 := Int32.toInt_inj.mp (by rw [k2]; show _ = (5 : Int); omega)
  obtain ⟨r1, rfl, s1⟩ := yarg x1
  rw [s1 1 (by decide)] at y1
  rw [s1 2 (by decide)] at z1
  rw [s1 3 (by decide)] at w1
  rw [s1 4 (by decide)] at u1
  rw [s1 5 (by decide)] at k1
  obtain ⟨r2, rfl, s2⟩ := yarg y1
  rw [s2 2 (by decide)] at z1
  rw [s2 3 (by decide)] at w1
  rw [s2 4 (by decide)] at u1
  rw [s2 5 (by decide)] at k1
  obtain ⟨r3, rfl, s3⟩ := yarg z1
  rw [s3 3 (by decide)] at w1
  rw [s3 4 (by decide)] at u1
  rw [s3 5 (by decide)] at k1
  obtain ⟨r4, rfl, s4⟩ := yarg w1
  rw [s4 4 (by decide)] at u1
  rw [s4 5 (by decide)] at k1
  obtain ⟨r5, rfl, s5⟩ := yarg u1
  rw [s5 5 (by decide)] at k1
  obtain ⟨r6, rfl, s6⟩ := yarg k1
  obtain ⟨mm, run⟩ := ybyte5 x0 y0 z0 w0 u0 r6 d h
  rw [← q5, yby_c (ar' := ar) (by exact q0) (by exact q1) (by exact q2) (by exact q3) (by exact q4)] at run
  have bb := yby_b ar 5
  by_cases hz : yby ar 5 = 0
  · rw [if_pos hz] at g5
    refine ⟨mm, _, h, run, hG, fun _ _ hne => absurd rfl hne, _, List.mem_cons_self .., yexM (fun j => ρ0 (j + 1)) (fun j _ => rfl) ya0 (ya1 ?_ ya0) ya0 ?_⟩
    · show 0 + (1 * ρ0 12 + 0) ≤ 0
      rw [p11]
      omega
    · show (yby ar 5).toInt = 0 + 0
      rw [hz]
      rfl
  · rw [if_neg hz] at g5
    have hz1 : (yby ar 5).toInt ≠ 0 := fun e => hz (Int32.toInt_inj.mp e)
    refine ⟨mm, _, h, run, hG, fun _ _ hne => absurd rfl hne, _, List.mem_cons_of_mem _ (List.mem_cons_self ..), yexM (fun j => if j = 12 then (yby ar 5).toInt else ρ0 (j + 1)) ?_ (ya1 ?_ ya0) (ya1 ?_ ya0) ya0 ?_⟩
    · intro j hj
      have hj : j < 12 := hj
      show (if j = 12 then _ else ρ0 (j + 1)) = _
      rw [if_neg (by omega)]
    · show 1 ≤ (yby ar 5).toInt ∧ (yby ar 5).toInt ≤ 255
      omega
    · show 1 + (-1 * ρ0 12 + 0) ≤ 0
      rw [p11]
      omega
    · show (yby ar 5).toInt = 0 + (1 * (yby ar 5).toInt + 0)
      omega
theorem yT18_ok {t s : Nat} (ht : t < 5) {c0 v0 : Nat → Int} {ar : Nat → Int32} : ySum (yGv t s c0 v0 ar) yT18 := by
  intro args h ρ ρ0 hG hM d hd
  obtain ⟨-, ⟨⟨x0, x1, x2⟩, ⟨y0, y1, y2⟩, ⟨z0, z1, z2⟩, ⟨w0, w1, w2⟩, ⟨u0, u1, u2⟩, ⟨k0, k1, k2⟩, m0, m1, m2, m3, m4, m5, -⟩, ⟨-, -, -, -, -, b5, -⟩, ⟨e0, f0, e1, f1, e2, f2, e3, f3, e4, f4, -⟩, ⟨-, -, -, -, -, -, -, -, -, -, -, p11, -⟩, -⟩ := yun hM
  have g0 : (ar 0).toInt = sv ρ (sY 6) := ysm_gu (a := 15) m0
  have g1 : (ar 1).toInt = sv ρ (sY 7) := ysm_gu (a := 16) m1
  have g2 : (ar 2).toInt = sv ρ (sY 8) := ysm_gu (a := 17) m2
  have g3 : (ar 3).toInt = sv ρ (sY 9) := ysm_gu (a := 18) m3
  have g4 : (ar 4).toInt = sv ρ (sY 10) := ysm_gu (a := 19) m4
  have g5 : (if yby ar 6 = 0 then (0 : Int) else 1) = sv ρ (sY 11) := ysm_gu (a := 26) m5
  rw [sY_v] at g0 g1 g2 g3 g4 g5
  have x2 : x0.toInt = ρ 0 := x2
  have y2 : y0.toInt = ρ 1 := y2
  have z2 : z0.toInt = ρ 2 := z2
  have w2 : w0.toInt = ρ 3 := w2
  have u2 : u0.toInt = ρ 4 := u2
  have k2 : k0.toInt = ρ 5 := k2
  have b5 : 6 ≤ ρ 5 ∧ ρ 5 ≤ 6 := b5
  have e0 : 0 + (1 * ρ 0 + (-1 * ρ 6 + 0)) ≤ 0 := e0
  have f0 : 0 + (-1 * ρ 0 + (1 * ρ 6 + 0)) ≤ 0 := f0
  have e1 : 0 + (1 * ρ 1 + (-1 * ρ 7 + 0)) ≤ 0 := e1
  have f1 : 0 + (-1 * ρ 1 + (1 * ρ 7 + 0)) ≤ 0 := f1
  have e2 : 0 + (1 * ρ 2 + (-1 * ρ 8 + 0)) ≤ 0 := e2
  have f2 : 0 + (-1 * ρ 2 + (1 * ρ 8 + 0)) ≤ 0 := f2
  have e3 : 0 + (1 * ρ 3 + (-1 * ρ 9 + 0)) ≤ 0 := e3
  have f3 : 0 + (-1 * ρ 3 + (1 * ρ 9 + 0)) ≤ 0 := f3
  have e4 : 0 + (1 * ρ 4 + (-1 * ρ 10 + 0)) ≤ 0 := e4
  have f4 : 0 + (-1 * ρ 4 + (1 * ρ 10 + 0)) ≤ 0 := f4
  have p11 : ρ0 12 = ρ 11 := p11
  have q0 : x0 = ar 0 := Int32.toInt_inj.mp (by omega)
  have q1 : y0 = ar 1 := Int32.toInt_inj.mp (by omega)
  have q2 : z0 = ar 2 := Int32.toInt_inj.mp (by omega)
  have q3 : w0 = ar 3 := Int32.toInt_inj.mp (by omega)
  have q4 : u0 = ar 4 := Int32.toInt_inj.mp (by omega)
  have q5 : k0 = 6 := Int32.toInt_inj.mp (by rw [k2]; show _ = (6 : Int); omega)
  obtain ⟨r1, rfl, s1⟩ := yarg x1
  rw [s1 1 (by decide)] at y1
  rw [s1 2 (by decide)] at z1
  rw [s1 3 (by decide)] at w1
  rw [s1 4 (by decide)] at u1
  rw [s1 5 (by decide)] at k1
  obtain ⟨r2, rfl, s2⟩ := yarg y1
  rw [s2 2 (by decide)] at z1
  rw [s2 3 (by decide)] at w1
  rw [s2 4 (by decide)] at u1
  rw [s2 5 (by decide)] at k1
  obtain ⟨r3, rfl, s3⟩ := yarg z1
  rw [s3 3 (by decide)] at w1
  rw [s3 4 (by decide)] at u1
  rw [s3 5 (by decide)] at k1
  obtain ⟨r4, rfl, s4⟩ := yarg w1
  rw [s4 4 (by decide)] at u1
  rw [s4 5 (by decide)] at k1
  obtain ⟨r5, rfl, s5⟩ := yarg u1
  rw [s5 5 (by decide)] at k1
  obtain ⟨r6, rfl, s6⟩ := yarg k1
  obtain ⟨mm, run⟩ := ybyte6 x0 y0 z0 w0 u0 r6 d h
  rw [← q5, yby_c (ar' := ar) (by exact q0) (by exact q1) (by exact q2) (by exact q3) (by exact q4)] at run
  have bb := yby_b ar 6
  by_cases hz : yby ar 6 = 0
  · rw [if_pos hz] at g5
    refine ⟨mm, _, h, run, hG, fun _ _ hne => absurd rfl hne, _, List.mem_cons_self .., yexM (fun j => ρ0 (j + 1)) (fun j _ => rfl) ya0 (ya1 ?_ ya0) ya0 ?_⟩
    · show 0 + (1 * ρ0 12 + 0) ≤ 0
      rw [p11]
      omega
    · show (yby ar 6).toInt = 0 + 0
      rw [hz]
      rfl
  · rw [if_neg hz] at g5
    have hz1 : (yby ar 6).toInt ≠ 0 := fun e => hz (Int32.toInt_inj.mp e)
    refine ⟨mm, _, h, run, hG, fun _ _ hne => absurd rfl hne, _, List.mem_cons_of_mem _ (List.mem_cons_self ..), yexM (fun j => if j = 12 then (yby ar 6).toInt else ρ0 (j + 1)) ?_ (ya1 ?_ ya0) (ya1 ?_ ya0) ya0 ?_⟩
    · intro j hj
      have hj : j < 12 := hj
      show (if j = 12 then _ else ρ0 (j + 1)) = _
      rw [if_neg (by omega)]
    · show 1 ≤ (yby ar 6).toInt ∧ (yby ar 6).toInt ≤ 255
      omega
    · show 1 + (-1 * ρ0 12 + 0) ≤ 0
      rw [p11]
      omega
    · show (yby ar 6).toInt = 0 + (1 * (yby ar 6).toInt + 0)
      omega
theorem yT19_ok {t s : Nat} (ht : t < 5) {c0 v0 : Nat → Int} {ar : Nat → Int32} : ySum (yGv t s c0 v0 ar) yT19 := by
  intro args h ρ ρ0 hG hM d hd
  obtain ⟨-, ⟨⟨x0, x1, x2⟩, ⟨y0, y1, y2⟩, ⟨z0, z1, z2⟩, ⟨w0, w1, w2⟩, ⟨u0, u1, u2⟩, ⟨k0, k1, k2⟩, m0, m1, m2, m3, m4, m5, -⟩, ⟨-, -, -, -, -, b5, -⟩, ⟨e0, f0, e1, f1, e2, f2, e3, f3, e4, f4, -⟩, ⟨-, -, -, -, -, -, -, -, -, -, -, p11, -⟩, -⟩ := yun hM
  have g0 : (ar 0).toInt = sv ρ (sY 6) := ysm_gu (a := 15) m0
  have g1 : (ar 1).toInt = sv ρ (sY 7) := ysm_gu (a := 16) m1
  have g2 : (ar 2).toInt = sv ρ (sY 8) := ysm_gu (a := 17) m2
  have g3 : (ar 3).toInt = sv ρ (sY 9) := ysm_gu (a := 18) m3
  have g4 : (ar 4).toInt = sv ρ (sY 10) := ysm_gu (a := 19) m4
  have g5 : (if yby ar 7 = 0 then (0 : Int) else 1) = sv ρ (sY 11) := ysm_gu (a := 27) m5
  rw [sY_v] at g0 g1 g2 g3 g4 g5
  have x2 : x0.toInt = ρ 0 := x2
  have y2 : y0.toInt = ρ 1 := y2
  have z2 : z0.toInt = ρ 2 := z2
  have w2 : w0.toInt = ρ 3 := w2
  have u2 : u0.toInt = ρ 4 := u2
  have k2 : k0.toInt = ρ 5 := k2
  have b5 : 7 ≤ ρ 5 ∧ ρ 5 ≤ 7 := b5
  have e0 : 0 + (1 * ρ 0 + (-1 * ρ 6 + 0)) ≤ 0 := e0
  have f0 : 0 + (-1 * ρ 0 + (1 * ρ 6 + 0)) ≤ 0 := f0
  have e1 : 0 + (1 * ρ 1 + (-1 * ρ 7 + 0)) ≤ 0 := e1
  have f1 : 0 + (-1 * ρ 1 + (1 * ρ 7 + 0)) ≤ 0 := f1
  have e2 : 0 + (1 * ρ 2 + (-1 * ρ 8 + 0)) ≤ 0 := e2
  have f2 : 0 + (-1 * ρ 2 + (1 * ρ 8 + 0)) ≤ 0 := f2
  have e3 : 0 + (1 * ρ 3 + (-1 * ρ 9 + 0)) ≤ 0 := e3
  have f3 : 0 + (-1 * ρ 3 + (1 * ρ 9 + 0)) ≤ 0 := f3
  have e4 : 0 + (1 * ρ 4 + (-1 * ρ 10 + 0)) ≤ 0 := e4
  have f4 : 0 + (-1 * ρ 4 + (1 * ρ 10 + 0)) ≤ 0 := f4
  have p11 : ρ0 12 = ρ 11 := p11
  have q0 : x0 = ar 0 := Int32.toInt_inj.mp (by omega)
  have q1 : y0 = ar 1 := Int32.toInt_inj.mp (by omega)
  have q2 : z0 = ar 2 := Int32.toInt_inj.mp (by omega)
  have q3 : w0 = ar 3 := Int32.toInt_inj.mp (by omega)
  have q4 : u0 = ar 4 := Int32.toInt_inj.mp (by omega)
  have q5 : k0 = 7 := Int32.toInt_inj.mp (by rw [k2]; show _ = (7 : Int); omega)
  obtain ⟨r1, rfl, s1⟩ := yarg x1
  rw [s1 1 (by decide)] at y1
  rw [s1 2 (by decide)] at z1
  rw [s1 3 (by decide)] at w1
  rw [s1 4 (by decide)] at u1
  rw [s1 5 (by decide)] at k1
  obtain ⟨r2, rfl, s2⟩ := yarg y1
  rw [s2 2 (by decide)] at z1
  rw [s2 3 (by decide)] at w1
  rw [s2 4 (by decide)] at u1
  rw [s2 5 (by decide)] at k1
  obtain ⟨r3, rfl, s3⟩ := yarg z1
  rw [s3 3 (by decide)] at w1
  rw [s3 4 (by decide)] at u1
  rw [s3 5 (by decide)] at k1
  obtain ⟨r4, rfl, s4⟩ := yarg w1
  rw [s4 4 (by decide)] at u1
  rw [s4 5 (by decide)] at k1
  obtain ⟨r5, rfl, s5⟩ := yarg u1
  rw [s5 5 (by decide)] at k1
  obtain ⟨r6, rfl, s6⟩ := yarg k1
  obtain ⟨mm, run⟩ := ybyte7 x0 y0 z0 w0 u0 r6 d h
  rw [← q5, yby_c (ar' := ar) (by exact q0) (by exact q1) (by exact q2) (by exact q3) (by exact q4)] at run
  have bb := yby_b ar 7
  by_cases hz : yby ar 7 = 0
  · rw [if_pos hz] at g5
    refine ⟨mm, _, h, run, hG, fun _ _ hne => absurd rfl hne, _, List.mem_cons_self .., yexM (fun j => ρ0 (j + 1)) (fun j _ => rfl) ya0 (ya1 ?_ ya0) ya0 ?_⟩
    · show 0 + (1 * ρ0 12 + 0) ≤ 0
      rw [p11]
      omega
    · show (yby ar 7).toInt = 0 + 0
      rw [hz]
      rfl
  · rw [if_neg hz] at g5
    have hz1 : (yby ar 7).toInt ≠ 0 := fun e => hz (Int32.toInt_inj.mp e)
    refine ⟨mm, _, h, run, hG, fun _ _ hne => absurd rfl hne, _, List.mem_cons_of_mem _ (List.mem_cons_self ..), yexM (fun j => if j = 12 then (yby ar 7).toInt else ρ0 (j + 1)) ?_ (ya1 ?_ ya0) (ya1 ?_ ya0) ya0 ?_⟩
    · intro j hj
      have hj : j < 12 := hj
      show (if j = 12 then _ else ρ0 (j + 1)) = _
      rw [if_neg (by omega)]
    · show 1 ≤ (yby ar 7).toInt ∧ (yby ar 7).toInt ≤ 255
      omega
    · show 1 + (-1 * ρ0 12 + 0) ≤ 0
      rw [p11]
      omega
    · show (yby ar 7).toInt = 0 + (1 * (yby ar 7).toInt + 0)
      omega
theorem yT20_ok {t s : Nat} (ht : t < 5) {c0 v0 : Nat → Int} {ar : Nat → Int32} : ySum (yGv t s c0 v0 ar) yT20 := by
  intro args h ρ ρ0 hG hM d hd
  obtain ⟨-, ⟨⟨x0, x1, x2⟩, ⟨y0, y1, y2⟩, ⟨z0, z1, z2⟩, ⟨w0, w1, w2⟩, ⟨u0, u1, u2⟩, ⟨k0, k1, k2⟩, m0, m1, m2, m3, m4, m5, -⟩, ⟨-, -, -, -, -, b5, -⟩, ⟨e0, f0, e1, f1, e2, f2, e3, f3, e4, f4, -⟩, ⟨-, -, -, -, -, -, -, -, -, -, -, p11, -⟩, -⟩ := yun hM
  have g0 : (ar 0).toInt = sv ρ (sY 6) := ysm_gu (a := 15) m0
  have g1 : (ar 1).toInt = sv ρ (sY 7) := ysm_gu (a := 16) m1
  have g2 : (ar 2).toInt = sv ρ (sY 8) := ysm_gu (a := 17) m2
  have g3 : (ar 3).toInt = sv ρ (sY 9) := ysm_gu (a := 18) m3
  have g4 : (ar 4).toInt = sv ρ (sY 10) := ysm_gu (a := 19) m4
  have g5 : (if yby ar 8 = 0 then (0 : Int) else 1) = sv ρ (sY 11) := ysm_gu (a := 28) m5
  rw [sY_v] at g0 g1 g2 g3 g4 g5
  have x2 : x0.toInt = ρ 0 := x2
  have y2 : y0.toInt = ρ 1 := y2
  have z2 : z0.toInt = ρ 2 := z2
  have w2 : w0.toInt = ρ 3 := w2
  have u2 : u0.toInt = ρ 4 := u2
  have k2 : k0.toInt = ρ 5 := k2
  have b5 : 8 ≤ ρ 5 ∧ ρ 5 ≤ 8 := b5
  have e0 : 0 + (1 * ρ 0 + (-1 * ρ 6 + 0)) ≤ 0 := e0
  have f0 : 0 + (-1 * ρ 0 + (1 * ρ 6 + 0)) ≤ 0 := f0
  have e1 : 0 + (1 * ρ 1 + (-1 * ρ 7 + 0)) ≤ 0 := e1
  have f1 : 0 + (-1 * ρ 1 + (1 * ρ 7 + 0)) ≤ 0 := f1
  have e2 : 0 + (1 * ρ 2 + (-1 * ρ 8 + 0)) ≤ 0 := e2
  have f2 : 0 + (-1 * ρ 2 + (1 * ρ 8 + 0)) ≤ 0 := f2
  have e3 : 0 + (1 * ρ 3 + (-1 * ρ 9 + 0)) ≤ 0 := e3
  have f3 : 0 + (-1 * ρ 3 + (1 * ρ 9 + 0)) ≤ 0 := f3
  have e4 : 0 + (1 * ρ 4 + (-1 * ρ 10 + 0)) ≤ 0 := e4
  have f4 : 0 + (-1 * ρ 4 + (1 * ρ 10 + 0)) ≤ 0 := f4
  have p11 : ρ0 12 = ρ 11 := p11
  have q0 : x0 = ar 0 := Int32.toInt_inj.mp (by omega)
  have q1 : y0 = ar 1 := Int32.toInt_inj.mp (by omega)
  have q2 : z0 = ar 2 := Int32.toInt_inj.mp (by omega)
  have q3 : w0 = ar 3 := Int32.toInt_inj.mp (by omega)
  have q4 : u0 = ar 4 := Int32.toInt_inj.mp (by omega)
  have q5 : k0 = 8 := Int32.toInt_inj.mp (by rw [k2]; show _ = (8 : Int); omega)
  obtain ⟨r1, rfl, s1⟩ := yarg x1
  rw [s1 1 (by decide)] at y1
  rw [s1 2 (by decide)] at z1
  rw [s1 3 (by decide)] at w1
  rw [s1 4 (by decide)] at u1
  rw [s1 5 (by decide)] at k1
  obtain ⟨r2, rfl, s2⟩ := yarg y1
  rw [s2 2 (by decide)] at z1
  rw [s2 3 (by decide)] at w1
  rw [s2 4 (by decide)] at u1
  rw [s2 5 (by decide)] at k1
  obtain ⟨r3, rfl, s3⟩ := yarg z1
  rw [s3 3 (by decide)] at w1
  rw [s3 4 (by decide)] at u1
  rw [s3 5 (by decide)] at k1
  obtain ⟨r4, rfl, s4⟩ := yarg w1
  rw [s4 4 (by decide)] at u1
  rw [s4 5 (by decide)] at k1
  obtain ⟨r5, rfl, s5⟩ := yarg u1
  rw [s5 5 (by decide)] at k1
  obtain ⟨r6, rfl, s6⟩ := yarg k1
  obtain ⟨mm, run⟩ := ybyte8 x0 y0 z0 w0 u0 r6 d h
  rw [← q5, yby_c (ar' := ar) (by exact q0) (by exact q1) (by exact q2) (by exact q3) (by exact q4)] at run
  have bb := yby_b ar 8
  by_cases hz : yby ar 8 = 0
  · rw [if_pos hz] at g5
    refine ⟨mm, _, h, run, hG, fun _ _ hne => absurd rfl hne, _, List.mem_cons_self .., yexM (fun j => ρ0 (j + 1)) (fun j _ => rfl) ya0 (ya1 ?_ ya0) ya0 ?_⟩
    · show 0 + (1 * ρ0 12 + 0) ≤ 0
      rw [p11]
      omega
    · show (yby ar 8).toInt = 0 + 0
      rw [hz]
      rfl
  · rw [if_neg hz] at g5
    have hz1 : (yby ar 8).toInt ≠ 0 := fun e => hz (Int32.toInt_inj.mp e)
    refine ⟨mm, _, h, run, hG, fun _ _ hne => absurd rfl hne, _, List.mem_cons_of_mem _ (List.mem_cons_self ..), yexM (fun j => if j = 12 then (yby ar 8).toInt else ρ0 (j + 1)) ?_ (ya1 ?_ ya0) (ya1 ?_ ya0) ya0 ?_⟩
    · intro j hj
      have hj : j < 12 := hj
      show (if j = 12 then _ else ρ0 (j + 1)) = _
      rw [if_neg (by omega)]
    · show 1 ≤ (yby ar 8).toInt ∧ (yby ar 8).toInt ≤ 255
      omega
    · show 1 + (-1 * ρ0 12 + 0) ≤ 0
      rw [p11]
      omega
    · show (yby ar 8).toInt = 0 + (1 * (yby ar 8).toInt + 0)
      omega
theorem yT21_ok {t s : Nat} (ht : t < 5) {c0 v0 : Nat → Int} {ar : Nat → Int32} : ySum (yGv t s c0 v0 ar) yT21 := by
  intro args h ρ ρ0 hG hM d hd
  obtain ⟨-, ⟨⟨x0, x1, x2⟩, ⟨y0, y1, y2⟩, ⟨z0, z1, z2⟩, ⟨w0, w1, w2⟩, ⟨u0, u1, u2⟩, ⟨k0, k1, k2⟩, m0, m1, m2, m3, m4, m5, -⟩, ⟨-, -, -, -, -, b5, -⟩, ⟨e0, f0, e1, f1, e2, f2, e3, f3, e4, f4, -⟩, ⟨-, -, -, -, -, -, -, -, -, -, -, p11, -⟩, -⟩ := yun hM
  have g0 : (ar 0).toInt = sv ρ (sY 6) := ysm_gu (a := 15) m0
  have g1 : (ar 1).toInt = sv ρ (sY 7) := ysm_gu (a := 16) m1
  have g2 : (ar 2).toInt = sv ρ (sY 8) := ysm_gu (a := 17) m2
  have g3 : (ar 3).toInt = sv ρ (sY 9) := ysm_gu (a := 18) m3
  have g4 : (ar 4).toInt = sv ρ (sY 10) := ysm_gu (a := 19) m4
  have g5 : (if yby ar 9 = 0 then (0 : Int) else 1) = sv ρ (sY 11) := ysm_gu (a := 29) m5
  rw [sY_v] at g0 g1 g2 g3 g4 g5
  have x2 : x0.toInt = ρ 0 := x2
  have y2 : y0.toInt = ρ 1 := y2
  have z2 : z0.toInt = ρ 2 := z2
  have w2 : w0.toInt = ρ 3 := w2
  have u2 : u0.toInt = ρ 4 := u2
  have k2 : k0.toInt = ρ 5 := k2
  have b5 : 9 ≤ ρ 5 ∧ ρ 5 ≤ 9 := b5
  have e0 : 0 + (1 * ρ 0 + (-1 * ρ 6 + 0)) ≤ 0 := e0
  have f0 : 0 + (-1 * ρ 0 + (1 * ρ 6 + 0)) ≤ 0 := f0
  have e1 : 0 + (1 * ρ 1 + (-1 * ρ 7 + 0)) ≤ 0 := e1
  have f1 : 0 + (-1 * ρ 1 + (1 * ρ 7 + 0)) ≤ 0 := f1
  have e2 : 0 + (1 * ρ 2 + (-1 * ρ 8 + 0)) ≤ 0 := e2
  have f2 : 0 + (-1 * ρ 2 + (1 * ρ 8 + 0)) ≤ 0 := f2
  have e3 : 0 + (1 * ρ 3 + (-1 * ρ 9 + 0)) ≤ 0 := e3
  have f3 : 0 + (-1 * ρ 3 + (1 * ρ 9 + 0)) ≤ 0 := f3
  have e4 : 0 + (1 * ρ 4 + (-1 * ρ 10 + 0)) ≤ 0 := e4
  have f4 : 0 + (-1 * ρ 4 + (1 * ρ 10 + 0)) ≤ 0 := f4
  have p11 : ρ0 12 = ρ 11 := p11
  have q0 : x0 = ar 0 := Int32.toInt_inj.mp (by omega)
  have q1 : y0 = ar 1 := Int32.toInt_inj.mp (by omega)
  have q2 : z0 = ar 2 := Int32.toInt_inj.mp (by omega)
  have q3 : w0 = ar 3 := Int32.toInt_inj.mp (by omega)
  have q4 : u0 = ar 4 := Int32.toInt_inj.mp (by omega)
  have q5 : k0 = 9 := Int32.toInt_inj.mp (by rw [k2]; show _ = (9 : Int); omega)
  obtain ⟨r1, rfl, s1⟩ := yarg x1
  rw [s1 1 (by decide)] at y1
  rw [s1 2 (by decide)] at z1
  rw [s1 3 (by decide)] at w1
  rw [s1 4 (by decide)] at u1
  rw [s1 5 (by decide)] at k1
  obtain ⟨r2, rfl, s2⟩ := yarg y1
  rw [s2 2 (by decide)] at z1
  rw [s2 3 (by decide)] at w1
  rw [s2 4 (by decide)] at u1
  rw [s2 5 (by decide)] at k1
  obtain ⟨r3, rfl, s3⟩ := yarg z1
  rw [s3 3 (by decide)] at w1
  rw [s3 4 (by decide)] at u1
  rw [s3 5 (by decide)] at k1
  obtain ⟨r4, rfl, s4⟩ := yarg w1
  rw [s4 4 (by decide)] at u1
  rw [s4 5 (by decide)] at k1
  obtain ⟨r5, rfl, s5⟩ := yarg u1
  rw [s5 5 (by decide)] at k1
  obtain ⟨r6, rfl, s6⟩ := yarg k1
  obtain ⟨mm, run⟩ := ybyte9 x0 y0 z0 w0 u0 r6 d h
  rw [← q5, yby_c (ar' := ar) (by exact q0) (by exact q1) (by exact q2) (by exact q3) (by exact q4)] at run
  have bb := yby_b ar 9
  by_cases hz : yby ar 9 = 0
  · rw [if_pos hz] at g5
    refine ⟨mm, _, h, run, hG, fun _ _ hne => absurd rfl hne, _, List.mem_cons_self .., yexM (fun j => ρ0 (j + 1)) (fun j _ => rfl) ya0 (ya1 ?_ ya0) ya0 ?_⟩
    · show 0 + (1 * ρ0 12 + 0) ≤ 0
      rw [p11]
      omega
    · show (yby ar 9).toInt = 0 + 0
      rw [hz]
      rfl
  · rw [if_neg hz] at g5
    have hz1 : (yby ar 9).toInt ≠ 0 := fun e => hz (Int32.toInt_inj.mp e)
    refine ⟨mm, _, h, run, hG, fun _ _ hne => absurd rfl hne, _, List.mem_cons_of_mem _ (List.mem_cons_self ..), yexM (fun j => if j = 12 then (yby ar 9).toInt else ρ0 (j + 1)) ?_ (ya1 ?_ ya0) (ya1 ?_ ya0) ya0 ?_⟩
    · intro j hj
      have hj : j < 12 := hj
      show (if j = 12 then _ else ρ0 (j + 1)) = _
      rw [if_neg (by omega)]
    · show 1 ≤ (yby ar 9).toInt ∧ (yby ar 9).toInt ≤ 255
      omega
    · show 1 + (-1 * ρ0 12 + 0) ≤ 0
      rw [p11]
      omega
    · show (yby ar 9).toInt = 0 + (1 * (yby ar 9).toInt + 0)
      omega
theorem yT22_ok {t s : Nat} (ht : t < 5) {c0 v0 : Nat → Int} {ar : Nat → Int32} : ySum (yGv t s c0 v0 ar) yT22 := by
  intro args h ρ ρ0 hG hM d hd
  obtain ⟨-, ⟨⟨x0, x1, x2⟩, ⟨y0, y1, y2⟩, ⟨z0, z1, z2⟩, ⟨w0, w1, w2⟩, ⟨u0, u1, u2⟩, ⟨k0, k1, k2⟩, m0, m1, m2, m3, m4, m5, -⟩, ⟨-, -, -, -, -, b5, -⟩, ⟨e0, f0, e1, f1, e2, f2, e3, f3, e4, f4, -⟩, ⟨-, -, -, -, -, -, -, -, -, -, -, p11, -⟩, -⟩ := yun hM
  have g0 : (ar 0).toInt = sv ρ (sY 6) := ysm_gu (a := 15) m0
  have g1 : (ar 1).toInt = sv ρ (sY 7) := ysm_gu (a := 16) m1
  have g2 : (ar 2).toInt = sv ρ (sY 8) := ysm_gu (a := 17) m2
  have g3 : (ar 3).toInt = sv ρ (sY 9) := ysm_gu (a := 18) m3
  have g4 : (ar 4).toInt = sv ρ (sY 10) := ysm_gu (a := 19) m4
  have g5 : (if yby ar 10 = 0 then (0 : Int) else 1) = sv ρ (sY 11) := ysm_gu (a := 30) m5
  rw [sY_v] at g0 g1 g2 g3 g4 g5
  have x2 : x0.toInt = ρ 0 := x2
  have y2 : y0.toInt = ρ 1 := y2
  have z2 : z0.toInt = ρ 2 := z2
  have w2 : w0.toInt = ρ 3 := w2
  have u2 : u0.toInt = ρ 4 := u2
  have k2 : k0.toInt = ρ 5 := k2
  have b5 : 10 ≤ ρ 5 ∧ ρ 5 ≤ 10 := b5
  have e0 : 0 + (1 * ρ 0 + (-1 * ρ 6 + 0)) ≤ 0 := e0
  have f0 : 0 + (-1 * ρ 0 + (1 * ρ 6 + 0)) ≤ 0 := f0
  have e1 : 0 + (1 * ρ 1 + (-1 * ρ 7 + 0)) ≤ 0 := e1
  have f1 : 0 + (-1 * ρ 1 + (1 * ρ 7 + 0)) ≤ 0 := f1
  have e2 : 0 + (1 * ρ 2 + (-1 * ρ 8 + 0)) ≤ 0 := e2
  have f2 : 0 + (-1 * ρ 2 + (1 * ρ 8 + 0)) ≤ 0 := f2
  have e3 : 0 + (1 * ρ 3 + (-1 * ρ 9 + 0)) ≤ 0 := e3
  have f3 : 0 + (-1 * ρ 3 + (1 * ρ 9 + 0)) ≤ 0 := f3
  have e4 : 0 + (1 * ρ 4 + (-1 * ρ 10 + 0)) ≤ 0 := e4
  have f4 : 0 + (-1 * ρ 4 + (1 * ρ 10 + 0)) ≤ 0 := f4
  have p11 : ρ0 12 = ρ 11 := p11
  have q0 : x0 = ar 0 := Int32.toInt_inj.mp (by omega)
  have q1 : y0 = ar 1 := Int32.toInt_inj.mp (by omega)
  have q2 : z0 = ar 2 := Int32.toInt_inj.mp (by omega)
  have q3 : w0 = ar 3 := Int32.toInt_inj.mp (by omega)
  have q4 : u0 = ar 4 := Int32.toInt_inj.mp (by omega)
  have q5 : k0 = 10 := Int32.toInt_inj.mp (by rw [k2]; show _ = (10 : Int); omega)
  obtain ⟨r1, rfl, s1⟩ := yarg x1
  rw [s1 1 (by decide)] at y1
  rw [s1 2 (by decide)] at z1
  rw [s1 3 (by decide)] at w1
  rw [s1 4 (by decide)] at u1
  rw [s1 5 (by decide)] at k1
  obtain ⟨r2, rfl, s2⟩ := yarg y1
  rw [s2 2 (by decide)] at z1
  rw [s2 3 (by decide)] at w1
  rw [s2 4 (by decide)] at u1
  rw [s2 5 (by decide)] at k1
  obtain ⟨r3, rfl, s3⟩ := yarg z1
  rw [s3 3 (by decide)] at w1
  rw [s3 4 (by decide)] at u1
  rw [s3 5 (by decide)] at k1
  obtain ⟨r4, rfl, s4⟩ := yarg w1
  rw [s4 4 (by decide)] at u1
  rw [s4 5 (by decide)] at k1
  obtain ⟨r5, rfl, s5⟩ := yarg u1
  rw [s5 5 (by decide)] at k1
  obtain ⟨r6, rfl, s6⟩ := yarg k1
  obtain ⟨mm, run⟩ := ybyte10 x0 y0 z0 w0 u0 r6 d h
  rw [← q5, yby_c (ar' := ar) (by exact q0) (by exact q1) (by exact q2) (by exact q3) (by exact q4)] at run
  have bb := yby_b ar 10
  by_cases hz : yby ar 10 = 0
  · rw [if_pos hz] at g5
    refine ⟨mm, _, h, run, hG, fun _ _ hne => absurd rfl hne, _, List.mem_cons_self .., yexM (fun j => ρ0 (j + 1)) (fun j _ => rfl) ya0 (ya1 ?_ ya0) ya0 ?_⟩
    · show 0 + (1 * ρ0 12 + 0) ≤ 0
      rw [p11]
      omega
    · show (yby ar 10).toInt = 0 + 0
      rw [hz]
      rfl
  · rw [if_neg hz] at g5
    have hz1 : (yby ar 10).toInt ≠ 0 := fun e => hz (Int32.toInt_inj.mp e)
    refine ⟨mm, _, h, run, hG, fun _ _ hne => absurd rfl hne, _, List.mem_cons_of_mem _ (List.mem_cons_self ..), yexM (fun j => if j = 12 then (yby ar 10).toInt else ρ0 (j + 1)) ?_ (ya1 ?_ ya0) (ya1 ?_ ya0) ya0 ?_⟩
    · intro j hj
      have hj : j < 12 := hj
      show (if j = 12 then _ else ρ0 (j + 1)) = _
      rw [if_neg (by omega)]
    · show 1 ≤ (yby ar 10).toInt ∧ (yby ar 10).toInt ≤ 255
      omega
    · show 1 + (-1 * ρ0 12 + 0) ≤ 0
      rw [p11]
      omega
    · show (yby ar 10).toInt = 0 + (1 * (yby ar 10).toInt + 0)
      omega
theorem yT23_ok {t s : Nat} (ht : t < 5) {c0 v0 : Nat → Int} {ar : Nat → Int32} : ySum (yGv t s c0 v0 ar) yT23 := by
  intro args h ρ ρ0 hG hM d hd
  obtain ⟨-, ⟨⟨x0, x1, x2⟩, ⟨y0, y1, y2⟩, ⟨z0, z1, z2⟩, ⟨w0, w1, w2⟩, ⟨u0, u1, u2⟩, ⟨k0, k1, k2⟩, m0, m1, m2, m3, m4, m5, -⟩, ⟨-, -, -, -, -, b5, -⟩, ⟨e0, f0, e1, f1, e2, f2, e3, f3, e4, f4, -⟩, ⟨-, -, -, -, -, -, -, -, -, -, -, p11, -⟩, -⟩ := yun hM
  have g0 : (ar 0).toInt = sv ρ (sY 6) := ysm_gu (a := 15) m0
  have g1 : (ar 1).toInt = sv ρ (sY 7) := ysm_gu (a := 16) m1
  have g2 : (ar 2).toInt = sv ρ (sY 8) := ysm_gu (a := 17) m2
  have g3 : (ar 3).toInt = sv ρ (sY 9) := ysm_gu (a := 18) m3
  have g4 : (ar 4).toInt = sv ρ (sY 10) := ysm_gu (a := 19) m4
  have g5 : (if yby ar 11 = 0 then (0 : Int) else 1) = sv ρ (sY 11) := ysm_gu (a := 31) m5
  rw [sY_v] at g0 g1 g2 g3 g4 g5
  have x2 : x0.toInt = ρ 0 := x2
  have y2 : y0.toInt = ρ 1 := y2
  have z2 : z0.toInt = ρ 2 := z2
  have w2 : w0.toInt = ρ 3 := w2
  have u2 : u0.toInt = ρ 4 := u2
  have k2 : k0.toInt = ρ 5 := k2
  have b5 : 11 ≤ ρ 5 ∧ ρ 5 ≤ 11 := b5
  have e0 : 0 + (1 * ρ 0 + (-1 * ρ 6 + 0)) ≤ 0 := e0
  have f0 : 0 + (-1 * ρ 0 + (1 * ρ 6 + 0)) ≤ 0 := f0
  have e1 : 0 + (1 * ρ 1 + (-1 * ρ 7 + 0)) ≤ 0 := e1
  have f1 : 0 + (-1 * ρ 1 + (1 * ρ 7 + 0)) ≤ 0 := f1
  have e2 : 0 + (1 * ρ 2 + (-1 * ρ 8 + 0)) ≤ 0 := e2
  have f2 : 0 + (-1 * ρ 2 + (1 * ρ 8 + 0)) ≤ 0 := f2
  have e3 : 0 + (1 * ρ 3 + (-1 * ρ 9 + 0)) ≤ 0 := e3
  have f3 : 0 + (-1 * ρ 3 + (1 * ρ 9 + 0)) ≤ 0 := f3
  have e4 : 0 + (1 * ρ 4 + (-1 * ρ 10 + 0)) ≤ 0 := e4
  have f4 : 0 + (-1 * ρ 4 + (1 * ρ 10 + 0)) ≤ 0 := f4
  have p11 : ρ0 12 = ρ 11 := p11
  have q0 : x0 = ar 0 := Int32.toInt_inj.mp (by omega)
  have q1 : y0 = ar 1 := Int32.toInt_inj.mp (by omega)
  have q2 : z0 = ar 2 := Int32.toInt_inj.mp (by omega)
  have q3 : w0 = ar 3 := Int32.toInt_inj.mp (by omega)
  have q4 : u0 = ar 4 := Int32.toInt_inj.mp (by omega)
  have q5 : k0 = 11 := Int32.toInt_inj.mp (by rw [k2]; show _ = (11 : Int); omega)
  obtain ⟨r1, rfl, s1⟩ := yarg x1
  rw [s1 1 (by decide)] at y1
  rw [s1 2 (by decide)] at z1
  rw [s1 3 (by decide)] at w1
  rw [s1 4 (by decide)] at u1
  rw [s1 5 (by decide)] at k1
  obtain ⟨r2, rfl, s2⟩ := yarg y1
  rw [s2 2 (by decide)] at z1
  rw [s2 3 (by decide)] at w1
  rw [s2 4 (by decide)] at u1
  rw [s2 5 (by decide)] at k1
  obtain ⟨r3, rfl, s3⟩ := yarg z1
  rw [s3 3 (by decide)] at w1
  rw [s3 4 (by decide)] at u1
  rw [s3 5 (by decide)] at k1
  obtain ⟨r4, rfl, s4⟩ := yarg w1
  rw [s4 4 (by decide)] at u1
  rw [s4 5 (by decide)] at k1
  obtain ⟨r5, rfl, s5⟩ := yarg u1
  rw [s5 5 (by decide)] at k1
  obtain ⟨r6, rfl, s6⟩ := yarg k1
  obtain ⟨mm, run⟩ := ybyte11 x0 y0 z0 w0 u0 r6 d h
  rw [← q5, yby_c (ar' := ar) (by exact q0) (by exact q1) (by exact q2) (by exact q3) (by exact q4)] at run
  have bb := yby_b ar 11
  by_cases hz : yby ar 11 = 0
  · rw [if_pos hz] at g5
    refine ⟨mm, _, h, run, hG, fun _ _ hne => absurd rfl hne, _, List.mem_cons_self .., yexM (fun j => ρ0 (j + 1)) (fun j _ => rfl) ya0 (ya1 ?_ ya0) ya0 ?_⟩
    · show 0 + (1 * ρ0 12 + 0) ≤ 0
      rw [p11]
      omega
    · show (yby ar 11).toInt = 0 + 0
      rw [hz]
      rfl
  · rw [if_neg hz] at g5
    have hz1 : (yby ar 11).toInt ≠ 0 := fun e => hz (Int32.toInt_inj.mp e)
    refine ⟨mm, _, h, run, hG, fun _ _ hne => absurd rfl hne, _, List.mem_cons_of_mem _ (List.mem_cons_self ..), yexM (fun j => if j = 12 then (yby ar 11).toInt else ρ0 (j + 1)) ?_ (ya1 ?_ ya0) (ya1 ?_ ya0) ya0 ?_⟩
    · intro j hj
      have hj : j < 12 := hj
      show (if j = 12 then _ else ρ0 (j + 1)) = _
      rw [if_neg (by omega)]
    · show 1 ≤ (yby ar 11).toInt ∧ (yby ar 11).toInt ≤ 255
      omega
    · show 1 + (-1 * ρ0 12 + 0) ≤ 0
      rw [p11]
      omega
    · show (yby ar 11).toInt = 0 + (1 * (yby ar 11).toInt + 0)
      omega
theorem yT24_ok {t s : Nat} (ht : t < 5) {c0 v0 : Nat → Int} {ar : Nat → Int32} : ySum (yGv t s c0 v0 ar) yT24 := by
  intro args h ρ ρ0 hG hM d hd
  obtain ⟨-, ⟨⟨x0, x1, x2⟩, ⟨y0, y1, y2⟩, ⟨z0, z1, z2⟩, ⟨w0, w1, w2⟩, ⟨u0, u1, u2⟩, ⟨k0, k1, k2⟩, m0, m1, m2, m3, m4, m5, -⟩, ⟨-, -, -, -, -, b5, -⟩, ⟨e0, f0, e1, f1, e2, f2, e3, f3, e4, f4, -⟩, ⟨-, -, -, -, -, -, -, -, -, -, -, p11, -⟩, -⟩ := yun hM
  have g0 : (ar 0).toInt = sv ρ (sY 6) := ysm_gu (a := 15) m0
  have g1 : (ar 1).toInt = sv ρ (sY 7) := ysm_gu (a := 16) m1
  have g2 : (ar 2).toInt = sv ρ (sY 8) := ysm_gu (a := 17) m2
  have g3 : (ar 3).toInt = sv ρ (sY 9) := ysm_gu (a := 18) m3
  have g4 : (ar 4).toInt = sv ρ (sY 10) := ysm_gu (a := 19) m4
  have g5 : (if yby ar 12 = 0 then (0 : Int) else 1) = sv ρ (sY 11) := ysm_gu (a := 32) m5
  rw [sY_v] at g0 g1 g2 g3 g4 g5
  have x2 : x0.toInt = ρ 0 := x2
  have y2 : y0.toInt = ρ 1 := y2
  have z2 : z0.toInt = ρ 2 := z2
  have w2 : w0.toInt = ρ 3 := w2
  have u2 : u0.toInt = ρ 4 := u2
  have k2 : k0.toInt = ρ 5 := k2
  have b5 : 12 ≤ ρ 5 ∧ ρ 5 ≤ 12 := b5
  have e0 : 0 + (1 * ρ 0 + (-1 * ρ 6 + 0)) ≤ 0 := e0
  have f0 : 0 + (-1 * ρ 0 + (1 * ρ 6 + 0)) ≤ 0 := f0
  have e1 : 0 + (1 * ρ 1 + (-1 * ρ 7 + 0)) ≤ 0 := e1
  have f1 : 0 + (-1 * ρ 1 + (1 * ρ 7 + 0)) ≤ 0 := f1
  have e2 : 0 + (1 * ρ 2 + (-1 * ρ 8 + 0)) ≤ 0 := e2
  have f2 : 0 + (-1 * ρ 2 + (1 * ρ 8 + 0)) ≤ 0 := f2
  have e3 : 0 + (1 * ρ 3 + (-1 * ρ 9 + 0)) ≤ 0 := e3
  have f3 : 0 + (-1 * ρ 3 + (1 * ρ 9 + 0)) ≤ 0 := f3
  have e4 : 0 + (1 * ρ 4 + (-1 * ρ 10 + 0)) ≤ 0 := e4
  have f4 : 0 + (-1 * ρ 4 + (1 * ρ 10 + 0)) ≤ 0 := f4
  have p11 : ρ0 12 = ρ 11 := p11
  have q0 : x0 = ar 0 := Int32.toInt_inj.mp (by omega)
  have q1 : y0 = ar 1 := Int32.toInt_inj.mp (by omega)
  have q2 : z0 = ar 2 := Int32.toInt_inj.mp (by omega)
  have q3 : w0 = ar 3 := Int32.toInt_inj.mp (by omega)
  have q4 : u0 = ar 4 := Int32.toInt_inj.mp (by omega)
  have q5 : k0 = 12 := Int32.toInt_inj.mp (by rw [k2]; show _ = (12 : Int); omega)
  obtain ⟨r1, rfl, s1⟩ := yarg x1
  rw [s1 1 (by decide)] at y1
  rw [s1 2 (by decide)] at z1
  rw [s1 3 (by decide)] at w1
  rw [s1 4 (by decide)] at u1
  rw [s1 5 (by decide)] at k1
  obtain ⟨r2, rfl, s2⟩ := yarg y1
  rw [s2 2 (by decide)] at z1
  rw [s2 3 (by decide)] at w1
  rw [s2 4 (by decide)] at u1
  rw [s2 5 (by decide)] at k1
  obtain ⟨r3, rfl, s3⟩ := yarg z1
  rw [s3 3 (by decide)] at w1
  rw [s3 4 (by decide)] at u1
  rw [s3 5 (by decide)] at k1
  obtain ⟨r4, rfl, s4⟩ := yarg w1
  rw [s4 4 (by decide)] at u1
  rw [s4 5 (by decide)] at k1
  obtain ⟨r5, rfl, s5⟩ := yarg u1
  rw [s5 5 (by decide)] at k1
  obtain ⟨r6, rfl, s6⟩ := yarg k1
  obtain ⟨mm, run⟩ := ybyte12 x0 y0 z0 w0 u0 r6 d h
  rw [← q5, yby_c (ar' := ar) (by exact q0) (by exact q1) (by exact q2) (by exact q3) (by exact q4)] at run
  have bb := yby_b ar 12
  by_cases hz : yby ar 12 = 0
  · rw [if_pos hz] at g5
    refine ⟨mm, _, h, run, hG, fun _ _ hne => absurd rfl hne, _, List.mem_cons_self .., yexM (fun j => ρ0 (j + 1)) (fun j _ => rfl) ya0 (ya1 ?_ ya0) ya0 ?_⟩
    · show 0 + (1 * ρ0 12 + 0) ≤ 0
      rw [p11]
      omega
    · show (yby ar 12).toInt = 0 + 0
      rw [hz]
      rfl
  · rw [if_neg hz] at g5
    have hz1 : (yby ar 12).toInt ≠ 0 := fun e => hz (Int32.toInt_inj.mp e)
    refine ⟨mm, _, h, run, hG, fun _ _ hne => absurd rfl hne, _, List.mem_cons_of_mem _ (List.mem_cons_self ..), yexM (fun j => if j = 12 then (yby ar 12).toInt else ρ0 (j + 1)) ?_ (ya1 ?_ ya0) (ya1 ?_ ya0) ya0 ?_⟩
    · intro j hj
      have hj : j < 12 := hj
      show (if j = 12 then _ else ρ0 (j + 1)) = _
      rw [if_neg (by omega)]
    · show 1 ≤ (yby ar 12).toInt ∧ (yby ar 12).toInt ≤ 255
      omega
    · show 1 + (-1 * ρ0 12 + 0) ≤ 0
      rw [p11]
      omega
    · show (yby ar 12).toInt = 0 + (1 * (yby ar 12).toInt + 0)
      omega
theorem yT25_ok {t s : Nat} (ht : t < 5) {c0 v0 : Nat → Int} {ar : Nat → Int32} : ySum (yGv t s c0 v0 ar) yT25 := by
  intro args h ρ ρ0 hG hM d hd
  obtain ⟨-, ⟨⟨x0, x1, x2⟩, ⟨y0, y1, y2⟩, ⟨z0, z1, z2⟩, ⟨w0, w1, w2⟩, ⟨u0, u1, u2⟩, ⟨k0, k1, k2⟩, m0, m1, m2, m3, m4, m5, -⟩, ⟨-, -, -, -, -, b5, -⟩, ⟨e0, f0, e1, f1, e2, f2, e3, f3, e4, f4, -⟩, ⟨-, -, -, -, -, -, -, -, -, -, -, p11, -⟩, -⟩ := yun hM
  have g0 : (ar 0).toInt = sv ρ (sY 6) := ysm_gu (a := 15) m0
  have g1 : (ar 1).toInt = sv ρ (sY 7) := ysm_gu (a := 16) m1
  have g2 : (ar 2).toInt = sv ρ (sY 8) := ysm_gu (a := 17) m2
  have g3 : (ar 3).toInt = sv ρ (sY 9) := ysm_gu (a := 18) m3
  have g4 : (ar 4).toInt = sv ρ (sY 10) := ysm_gu (a := 19) m4
  have g5 : (if yby ar 13 = 0 then (0 : Int) else 1) = sv ρ (sY 11) := ysm_gu (a := 33) m5
  rw [sY_v] at g0 g1 g2 g3 g4 g5
  have x2 : x0.toInt = ρ 0 := x2
  have y2 : y0.toInt = ρ 1 := y2
  have z2 : z0.toInt = ρ 2 := z2
  have w2 : w0.toInt = ρ 3 := w2
  have u2 : u0.toInt = ρ 4 := u2
  have k2 : k0.toInt = ρ 5 := k2
  have b5 : 13 ≤ ρ 5 ∧ ρ 5 ≤ 13 := b5
  have e0 : 0 + (1 * ρ 0 + (-1 * ρ 6 + 0)) ≤ 0 := e0
  have f0 : 0 + (-1 * ρ 0 + (1 * ρ 6 + 0)) ≤ 0 := f0
  have e1 : 0 + (1 * ρ 1 + (-1 * ρ 7 + 0)) ≤ 0 := e1
  have f1 : 0 + (-1 * ρ 1 + (1 * ρ 7 + 0)) ≤ 0 := f1
  have e2 : 0 + (1 * ρ 2 + (-1 * ρ 8 + 0)) ≤ 0 := e2
  have f2 : 0 + (-1 * ρ 2 + (1 * ρ 8 + 0)) ≤ 0 := f2
  have e3 : 0 + (1 * ρ 3 + (-1 * ρ 9 + 0)) ≤ 0 := e3
  have f3 : 0 + (-1 * ρ 3 + (1 * ρ 9 + 0)) ≤ 0 := f3
  have e4 : 0 + (1 * ρ 4 + (-1 * ρ 10 + 0)) ≤ 0 := e4
  have f4 : 0 + (-1 * ρ 4 + (1 * ρ 10 + 0)) ≤ 0 := f4
  have p11 : ρ0 12 = ρ 11 := p11
  have q0 : x0 = ar 0 := Int32.toInt_inj.mp (by omega)
  have q1 : y0 = ar 1 := Int32.toInt_inj.mp (by omega)
  have q2 : z0 = ar 2 := Int32.toInt_inj.mp (by omega)
  have q3 : w0 = ar 3 := Int32.toInt_inj.mp (by omega)
  have q4 : u0 = ar 4 := Int32.toInt_inj.mp (by omega)
  have q5 : k0 = 13 := Int32.toInt_inj.mp (by rw [k2]; show _ = (13 : Int); omega)
  obtain ⟨r1, rfl, s1⟩ := yarg x1
  rw [s1 1 (by decide)] at y1
  rw [s1 2 (by decide)] at z1
  rw [s1 3 (by decide)] at w1
  rw [s1 4 (by decide)] at u1
  rw [s1 5 (by decide)] at k1
  obtain ⟨r2, rfl, s2⟩ := yarg y1
  rw [s2 2 (by decide)] at z1
  rw [s2 3 (by decide)] at w1
  rw [s2 4 (by decide)] at u1
  rw [s2 5 (by decide)] at k1
  obtain ⟨r3, rfl, s3⟩ := yarg z1
  rw [s3 3 (by decide)] at w1
  rw [s3 4 (by decide)] at u1
  rw [s3 5 (by decide)] at k1
  obtain ⟨r4, rfl, s4⟩ := yarg w1
  rw [s4 4 (by decide)] at u1
  rw [s4 5 (by decide)] at k1
  obtain ⟨r5, rfl, s5⟩ := yarg u1
  rw [s5 5 (by decide)] at k1
  obtain ⟨r6, rfl, s6⟩ := yarg k1
  obtain ⟨mm, run⟩ := ybyte13 x0 y0 z0 w0 u0 r6 d h
  rw [← q5, yby_c (ar' := ar) (by exact q0) (by exact q1) (by exact q2) (by exact q3) (by exact q4)] at run
  have bb := yby_b ar 13
  by_cases hz : yby ar 13 = 0
  · rw [if_pos hz] at g5
    refine ⟨mm, _, h, run, hG, fun _ _ hne => absurd rfl hne, _, List.mem_cons_self .., yexM (fun j => ρ0 (j + 1)) (fun j _ => rfl) ya0 (ya1 ?_ ya0) ya0 ?_⟩
    · show 0 + (1 * ρ0 12 + 0) ≤ 0
      rw [p11]
      omega
    · show (yby ar 13).toInt = 0 + 0
      rw [hz]
      rfl
  · rw [if_neg hz] at g5
    have hz1 : (yby ar 13).toInt ≠ 0 := fun e => hz (Int32.toInt_inj.mp e)
    refine ⟨mm, _, h, run, hG, fun _ _ hne => absurd rfl hne, _, List.mem_cons_of_mem _ (List.mem_cons_self ..), yexM (fun j => if j = 12 then (yby ar 13).toInt else ρ0 (j + 1)) ?_ (ya1 ?_ ya0) (ya1 ?_ ya0) ya0 ?_⟩
    · intro j hj
      have hj : j < 12 := hj
      show (if j = 12 then _ else ρ0 (j + 1)) = _
      rw [if_neg (by omega)]
    · show 1 ≤ (yby ar 13).toInt ∧ (yby ar 13).toInt ≤ 255
      omega
    · show 1 + (-1 * ρ0 12 + 0) ≤ 0
      rw [p11]
      omega
    · show (yby ar 13).toInt = 0 + (1 * (yby ar 13).toInt + 0)
      omega
theorem yT26_ok {t s : Nat} (ht : t < 5) {c0 v0 : Nat → Int} {ar : Nat → Int32} : ySum (yGv t s c0 v0 ar) yT26 := by
  intro args h ρ ρ0 hG hM d hd
  obtain ⟨-, ⟨⟨x0, x1, x2⟩, ⟨y0, y1, y2⟩, ⟨z0, z1, z2⟩, ⟨w0, w1, w2⟩, ⟨u0, u1, u2⟩, ⟨k0, k1, k2⟩, m0, m1, m2, m3, m4, m5, -⟩, ⟨-, -, -, -, -, b5, -⟩, ⟨e0, f0, e1, f1, e2, f2, e3, f3, e4, f4, -⟩, ⟨-, -, -, -, -, -, -, -, -, -, -, p11, -⟩, -⟩ := yun hM
  have g0 : (ar 0).toInt = sv ρ (sY 6) := ysm_gu (a := 15) m0
  have g1 : (ar 1).toInt = sv ρ (sY 7) := ysm_gu (a := 16) m1
  have g2 : (ar 2).toInt = sv ρ (sY 8) := ysm_gu (a := 17) m2
  have g3 : (ar 3).toInt = sv ρ (sY 9) := ysm_gu (a := 18) m3
  have g4 : (ar 4).toInt = sv ρ (sY 10) := ysm_gu (a := 19) m4
  have g5 : (if yby ar 14 = 0 then (0 : Int) else 1) = sv ρ (sY 11) := ysm_gu (a := 34) m5
  rw [sY_v] at g0 g1 g2 g3 g4 g5
  have x2 : x0.toInt = ρ 0 := x2
  have y2 : y0.toInt = ρ 1 := y2
  have z2 : z0.toInt = ρ 2 := z2
  have w2 : w0.toInt = ρ 3 := w2
  have u2 : u0.toInt = ρ 4 := u2
  have k2 : k0.toInt = ρ 5 := k2
  have b5 : 14 ≤ ρ 5 ∧ ρ 5 ≤ 14 := b5
  have e0 : 0 + (1 * ρ 0 + (-1 * ρ 6 + 0)) ≤ 0 := e0
  have f0 : 0 + (-1 * ρ 0 + (1 * ρ 6 + 0)) ≤ 0 := f0
  have e1 : 0 + (1 * ρ 1 + (-1 * ρ 7 + 0)) ≤ 0 := e1
  have f1 : 0 + (-1 * ρ 1 + (1 * ρ 7 + 0)) ≤ 0 := f1
  have e2 : 0 + (1 * ρ 2 + (-1 * ρ 8 + 0)) ≤ 0 := e2
  have f2 : 0 + (-1 * ρ 2 + (1 * ρ 8 + 0)) ≤ 0 := f2
  have e3 : 0 + (1 * ρ 3 + (-1 * ρ 9 + 0)) ≤ 0 := e3
  have f3 : 0 + (-1 * ρ 3 + (1 * ρ 9 + 0)) ≤ 0 := f3
  have e4 : 0 + (1 * ρ 4 + (-1 * ρ 10 + 0)) ≤ 0 := e4
  have f4 : 0 + (-1 * ρ 4 + (1 * ρ 10 + 0)) ≤ 0 := f4
  have p11 : ρ0 12 = ρ 11 := p11
  have q0 : x0 = ar 0 := Int32.toInt_inj.mp (by omega)
  have q1 : y0 = ar 1 := Int32.toInt_inj.mp (by omega)
  have q2 : z0 = ar 2 := Int32.toInt_inj.mp (by omega)
  have q3 : w0 = ar 3 := Int32.toInt_inj.mp (by omega)
  have q4 : u0 = ar 4 := Int32.toInt_inj.mp (by omega)
  have q5 : k0 = 14 := Int32.toInt_inj.mp (by rw [k2]; show _ = (14 : Int); omega)
  obtain ⟨r1, rfl, s1⟩ := yarg x1
  rw [s1 1 (by decide)] at y1
  rw [s1 2 (by decide)] at z1
  rw [s1 3 (by decide)] at w1
  rw [s1 4 (by decide)] at u1
  rw [s1 5 (by decide)] at k1
  obtain ⟨r2, rfl, s2⟩ := yarg y1
  rw [s2 2 (by decide)] at z1
  rw [s2 3 (by decide)] at w1
  rw [s2 4 (by decide)] at u1
  rw [s2 5 (by decide)] at k1
  obtain ⟨r3, rfl, s3⟩ := yarg z1
  rw [s3 3 (by decide)] at w1
  rw [s3 4 (by decide)] at u1
  rw [s3 5 (by decide)] at k1
  obtain ⟨r4, rfl, s4⟩ := yarg w1
  rw [s4 4 (by decide)] at u1
  rw [s4 5 (by decide)] at k1
  obtain ⟨r5, rfl, s5⟩ := yarg u1
  rw [s5 5 (by decide)] at k1
  obtain ⟨r6, rfl, s6⟩ := yarg k1
  obtain ⟨mm, run⟩ := ybyte14 x0 y0 z0 w0 u0 r6 d h
  rw [← q5, yby_c (ar' := ar) (by exact q0) (by exact q1) (by exact q2) (by exact q3) (by exact q4)] at run
  have bb := yby_b ar 14
  by_cases hz : yby ar 14 = 0
  · rw [if_pos hz] at g5
    refine ⟨mm, _, h, run, hG, fun _ _ hne => absurd rfl hne, _, List.mem_cons_self .., yexM (fun j => ρ0 (j + 1)) (fun j _ => rfl) ya0 (ya1 ?_ ya0) ya0 ?_⟩
    · show 0 + (1 * ρ0 12 + 0) ≤ 0
      rw [p11]
      omega
    · show (yby ar 14).toInt = 0 + 0
      rw [hz]
      rfl
  · rw [if_neg hz] at g5
    have hz1 : (yby ar 14).toInt ≠ 0 := fun e => hz (Int32.toInt_inj.mp e)
    refine ⟨mm, _, h, run, hG, fun _ _ hne => absurd rfl hne, _, List.mem_cons_of_mem _ (List.mem_cons_self ..), yexM (fun j => if j = 12 then (yby ar 14).toInt else ρ0 (j + 1)) ?_ (ya1 ?_ ya0) (ya1 ?_ ya0) ya0 ?_⟩
    · intro j hj
      have hj : j < 12 := hj
      show (if j = 12 then _ else ρ0 (j + 1)) = _
      rw [if_neg (by omega)]
    · show 1 ≤ (yby ar 14).toInt ∧ (yby ar 14).toInt ≤ 255
      omega
    · show 1 + (-1 * ρ0 12 + 0) ≤ 0
      rw [p11]
      omega
    · show (yby ar 14).toInt = 0 + (1 * (yby ar 14).toInt + 0)
      omega
theorem yT27_ok {t s : Nat} (ht : t < 5) {c0 v0 : Nat → Int} {ar : Nat → Int32} : ySum (yGv t s c0 v0 ar) yT27 := by
  intro args h ρ ρ0 hG hM d hd
  obtain ⟨-, ⟨⟨x0, x1, x2⟩, ⟨y0, y1, y2⟩, ⟨z0, z1, z2⟩, ⟨w0, w1, w2⟩, ⟨u0, u1, u2⟩, ⟨k0, k1, k2⟩, m0, m1, m2, m3, m4, m5, -⟩, ⟨-, -, -, -, -, b5, -⟩, ⟨e0, f0, e1, f1, e2, f2, e3, f3, e4, f4, -⟩, ⟨-, -, -, -, -, -, -, -, -, -, -, p11, -⟩, -⟩ := yun hM
  have g0 : (ar 0).toInt = sv ρ (sY 6) := ysm_gu (a := 15) m0
  have g1 : (ar 1).toInt = sv ρ (sY 7) := ysm_gu (a := 16) m1
  have g2 : (ar 2).toInt = sv ρ (sY 8) := ysm_gu (a := 17) m2
  have g3 : (ar 3).toInt = sv ρ (sY 9) := ysm_gu (a := 18) m3
  have g4 : (ar 4).toInt = sv ρ (sY 10) := ysm_gu (a := 19) m4
  have g5 : (if yby ar 15 = 0 then (0 : Int) else 1) = sv ρ (sY 11) := ysm_gu (a := 35) m5
  rw [sY_v] at g0 g1 g2 g3 g4 g5
  have x2 : x0.toInt = ρ 0 := x2
  have y2 : y0.toInt = ρ 1 := y2
  have z2 : z0.toInt = ρ 2 := z2
  have w2 : w0.toInt = ρ 3 := w2
  have u2 : u0.toInt = ρ 4 := u2
  have k2 : k0.toInt = ρ 5 := k2
  have b5 : 15 ≤ ρ 5 ∧ ρ 5 ≤ 15 := b5
  have e0 : 0 + (1 * ρ 0 + (-1 * ρ 6 + 0)) ≤ 0 := e0
  have f0 : 0 + (-1 * ρ 0 + (1 * ρ 6 + 0)) ≤ 0 := f0
  have e1 : 0 + (1 * ρ 1 + (-1 * ρ 7 + 0)) ≤ 0 := e1
  have f1 : 0 + (-1 * ρ 1 + (1 * ρ 7 + 0)) ≤ 0 := f1
  have e2 : 0 + (1 * ρ 2 + (-1 * ρ 8 + 0)) ≤ 0 := e2
  have f2 : 0 + (-1 * ρ 2 + (1 * ρ 8 + 0)) ≤ 0 := f2
  have e3 : 0 + (1 * ρ 3 + (-1 * ρ 9 + 0)) ≤ 0 := e3
  have f3 : 0 + (-1 * ρ 3 + (1 * ρ 9 + 0)) ≤ 0 := f3
  have e4 : 0 + (1 * ρ 4 + (-1 * ρ 10 + 0)) ≤ 0 := e4
  have f4 : 0 + (-1 * ρ 4 + (1 * ρ 10 + 0)) ≤ 0 := f4
  have p11 : ρ0 12 = ρ 11 := p11
  have q0 : x0 = ar 0 := Int32.toInt_inj.mp (by omega)
  have q1 : y0 = ar 1 := Int32.toInt_inj.mp (by omega)
  have q2 : z0 = ar 2 := Int32.toInt_inj.mp (by omega)
  have q3 : w0 = ar 3 := Int32.toInt_inj.mp (by omega)
  have q4 : u0 = ar 4 := Int32.toInt_inj.mp (by omega)
  have q5 : k0 = 15 := Int32.toInt_inj.mp (by rw [k2]; show _ = (15 : Int); omega)
  obtain ⟨r1, rfl, s1⟩ := yarg x1
  rw [s1 1 (by decide)] at y1
  rw [s1 2 (by decide)] at z1
  rw [s1 3 (by decide)] at w1
  rw [s1 4 (by decide)] at u1
  rw [s1 5 (by decide)] at k1
  obtain ⟨r2, rfl, s2⟩ := yarg y1
  rw [s2 2 (by decide)] at z1
  rw [s2 3 (by decide)] at w1
  rw [s2 4 (by decide)] at u1
  rw [s2 5 (by decide)] at k1
  obtain ⟨r3, rfl, s3⟩ := yarg z1
  rw [s3 3 (by decide)] at w1
  rw [s3 4 (by decide)] at u1
  rw [s3 5 (by decide)] at k1
  obtain ⟨r4, rfl, s4⟩ := yarg w1
  rw [s4 4 (by decide)] at u1
  rw [s4 5 (by decide)] at k1
  obtain ⟨r5, rfl, s5⟩ := yarg u1
  rw [s5 5 (by decide)] at k1
  obtain ⟨r6, rfl, s6⟩ := yarg k1
  obtain ⟨mm, run⟩ := ybyte15 x0 y0 z0 w0 u0 r6 d h
  rw [← q5, yby_c (ar' := ar) (by exact q0) (by exact q1) (by exact q2) (by exact q3) (by exact q4)] at run
  have bb := yby_b ar 15
  by_cases hz : yby ar 15 = 0
  · rw [if_pos hz] at g5
    refine ⟨mm, _, h, run, hG, fun _ _ hne => absurd rfl hne, _, List.mem_cons_self .., yexM (fun j => ρ0 (j + 1)) (fun j _ => rfl) ya0 (ya1 ?_ ya0) ya0 ?_⟩
    · show 0 + (1 * ρ0 12 + 0) ≤ 0
      rw [p11]
      omega
    · show (yby ar 15).toInt = 0 + 0
      rw [hz]
      rfl
  · rw [if_neg hz] at g5
    have hz1 : (yby ar 15).toInt ≠ 0 := fun e => hz (Int32.toInt_inj.mp e)
    refine ⟨mm, _, h, run, hG, fun _ _ hne => absurd rfl hne, _, List.mem_cons_of_mem _ (List.mem_cons_self ..), yexM (fun j => if j = 12 then (yby ar 15).toInt else ρ0 (j + 1)) ?_ (ya1 ?_ ya0) (ya1 ?_ ya0) ya0 ?_⟩
    · intro j hj
      have hj : j < 12 := hj
      show (if j = 12 then _ else ρ0 (j + 1)) = _
      rw [if_neg (by omega)]
    · show 1 ≤ (yby ar 15).toInt ∧ (yby ar 15).toInt ≤ 255
      omega
    · show 1 + (-1 * ρ0 12 + 0) ≤ 0
      rw [p11]
      omega
    · show (yby ar 15).toInt = 0 + (1 * (yby ar 15).toInt + 0)
      omega
theorem yT28_ok {t s : Nat} (ht : t < 5) {c0 v0 : Nat → Int} {ar : Nat → Int32} : ySum (yGv t s c0 v0 ar) yT28 := by
  intro args h ρ ρ0 hG hM d hd
  obtain ⟨-, ⟨⟨x0, x1, x2⟩, ⟨y0, y1, y2⟩, ⟨z0, z1, z2⟩, ⟨w0, w1, w2⟩, ⟨u0, u1, u2⟩, ⟨k0, k1, k2⟩, m0, m1, m2, m3, m4, m5, -⟩, ⟨-, -, -, -, -, b5, -⟩, ⟨e0, f0, e1, f1, e2, f2, e3, f3, e4, f4, -⟩, ⟨-, -, -, -, -, -, -, -, -, -, -, p11, -⟩, -⟩ := yun hM
  have g0 : (ar 0).toInt = sv ρ (sY 6) := ysm_gu (a := 15) m0
  have g1 : (ar 1).toInt = sv ρ (sY 7) := ysm_gu (a := 16) m1
  have g2 : (ar 2).toInt = sv ρ (sY 8) := ysm_gu (a := 17) m2
  have g3 : (ar 3).toInt = sv ρ (sY 9) := ysm_gu (a := 18) m3
  have g4 : (ar 4).toInt = sv ρ (sY 10) := ysm_gu (a := 19) m4
  have g5 : (if yby ar 16 = 0 then (0 : Int) else 1) = sv ρ (sY 11) := ysm_gu (a := 36) m5
  rw [sY_v] at g0 g1 g2 g3 g4 g5
  have x2 : x0.toInt = ρ 0 := x2
  have y2 : y0.toInt = ρ 1 := y2
  have z2 : z0.toInt = ρ 2 := z2
  have w2 : w0.toInt = ρ 3 := w2
  have u2 : u0.toInt = ρ 4 := u2
  have k2 : k0.toInt = ρ 5 := k2
  have b5 : 16 ≤ ρ 5 ∧ ρ 5 ≤ 16 := b5
  have e0 : 0 + (1 * ρ 0 + (-1 * ρ 6 + 0)) ≤ 0 := e0
  have f0 : 0 + (-1 * ρ 0 + (1 * ρ 6 + 0)) ≤ 0 := f0
  have e1 : 0 + (1 * ρ 1 + (-1 * ρ 7 + 0)) ≤ 0 := e1
  have f1 : 0 + (-1 * ρ 1 + (1 * ρ 7 + 0)) ≤ 0 := f1
  have e2 : 0 + (1 * ρ 2 + (-1 * ρ 8 + 0)) ≤ 0 := e2
  have f2 : 0 + (-1 * ρ 2 + (1 * ρ 8 + 0)) ≤ 0 := f2
  have e3 : 0 + (1 * ρ 3 + (-1 * ρ 9 + 0)) ≤ 0 := e3
  have f3 : 0 + (-1 * ρ 3 + (1 * ρ 9 + 0)) ≤ 0 := f3
  have e4 : 0 + (1 * ρ 4 + (-1 * ρ 10 + 0)) ≤ 0 := e4
  have f4 : 0 + (-1 * ρ 4 + (1 * ρ 10 + 0)) ≤ 0 := f4
  have p11 : ρ0 12 = ρ 11 := p11
  have q0 : x0 = ar 0 := Int32.toInt_inj.mp (by omega)
  have q1 : y0 = ar 1 := Int32.toInt_inj.mp (by omega)
  have q2 : z0 = ar 2 := Int32.toInt_inj.mp (by omega)
  have q3 : w0 = ar 3 := Int32.toInt_inj.mp (by omega)
  have q4 : u0 = ar 4 := Int32.toInt_inj.mp (by omega)
  have q5 : k0 = 16 := Int32.toInt_inj.mp (by rw [k2]; show _ = (16 : Int); omega)
  obtain ⟨r1, rfl, s1⟩ := yarg x1
  rw [s1 1 (by decide)] at y1
  rw [s1 2 (by decide)] at z1
  rw [s1 3 (by decide)] at w1
  rw [s1 4 (by decide)] at u1
  rw [s1 5 (by decide)] at k1
  obtain ⟨r2, rfl, s2⟩ := yarg y1
  rw [s2 2 (by decide)] at z1
  rw [s2 3 (by decide)] at w1
  rw [s2 4 (by decide)] at u1
  rw [s2 5 (by decide)] at k1
  obtain ⟨r3, rfl, s3⟩ := yarg z1
  rw [s3 3 (by decide)] at w1
  rw [s3 4 (by decide)] at u1
  rw [s3 5 (by decide)] at k1
  obtain ⟨r4, rfl, s4⟩ := yarg w1
  rw [s4 4 (by decide)] at u1
  rw [s4 5 (by decide)] at k1
  obtain ⟨r5, rfl, s5⟩ := yarg u1
  rw [s5 5 (by decide)] at k1
  obtain ⟨r6, rfl, s6⟩ := yarg k1
  obtain ⟨mm, run⟩ := ybyte16 x0 y0 z0 w0 u0 r6 d h
  rw [← q5, yby_c (ar' := ar) (by exact q0) (by exact q1) (by exact q2) (by exact q3) (by exact q4)] at run
  have bb := yby_b ar 16
  by_cases hz : yby ar 16 = 0
  · rw [if_pos hz] at g5
    refine ⟨mm, _, h, run, hG, fun _ _ hne => absurd rfl hne, _, List.mem_cons_self .., yexM (fun j => ρ0 (j + 1)) (fun j _ => rfl) ya0 (ya1 ?_ ya0) ya0 ?_⟩
    · show 0 + (1 * ρ0 12 + 0) ≤ 0
      rw [p11]
      omega
    · show (yby ar 16).toInt = 0 + 0
      rw [hz]
      rfl
  · rw [if_neg hz] at g5
    have hz1 : (yby ar 16).toInt ≠ 0 := fun e => hz (Int32.toInt_inj.mp e)
    refine ⟨mm, _, h, run, hG, fun _ _ hne => absurd rfl hne, _, List.mem_cons_of_mem _ (List.mem_cons_self ..), yexM (fun j => if j = 12 then (yby ar 16).toInt else ρ0 (j + 1)) ?_ (ya1 ?_ ya0) (ya1 ?_ ya0) ya0 ?_⟩
    · intro j hj
      have hj : j < 12 := hj
      show (if j = 12 then _ else ρ0 (j + 1)) = _
      rw [if_neg (by omega)]
    · show 1 ≤ (yby ar 16).toInt ∧ (yby ar 16).toInt ≤ 255
      omega
    · show 1 + (-1 * ρ0 12 + 0) ≤ 0
      rw [p11]
      omega
    · show (yby ar 16).toInt = 0 + (1 * (yby ar 16).toInt + 0)
      omega
theorem yT29_ok {t s : Nat} (ht : t < 5) {c0 v0 : Nat → Int} {ar : Nat → Int32} : ySum (yGv t s c0 v0 ar) yT29 := by
  intro args h ρ ρ0 hG hM d hd
  obtain ⟨-, ⟨⟨x0, x1, x2⟩, ⟨y0, y1, y2⟩, ⟨z0, z1, z2⟩, ⟨w0, w1, w2⟩, ⟨u0, u1, u2⟩, ⟨k0, k1, k2⟩, m0, m1, m2, m3, m4, m5, -⟩, ⟨-, -, -, -, -, b5, -⟩, ⟨e0, f0, e1, f1, e2, f2, e3, f3, e4, f4, -⟩, ⟨-, -, -, -, -, -, -, -, -, -, -, p11, -⟩, -⟩ := yun hM
  have g0 : (ar 0).toInt = sv ρ (sY 6) := ysm_gu (a := 15) m0
  have g1 : (ar 1).toInt = sv ρ (sY 7) := ysm_gu (a := 16) m1
  have g2 : (ar 2).toInt = sv ρ (sY 8) := ysm_gu (a := 17) m2
  have g3 : (ar 3).toInt = sv ρ (sY 9) := ysm_gu (a := 18) m3
  have g4 : (ar 4).toInt = sv ρ (sY 10) := ysm_gu (a := 19) m4
  have g5 : (if yby ar 17 = 0 then (0 : Int) else 1) = sv ρ (sY 11) := ysm_gu (a := 37) m5
  rw [sY_v] at g0 g1 g2 g3 g4 g5
  have x2 : x0.toInt = ρ 0 := x2
  have y2 : y0.toInt = ρ 1 := y2
  have z2 : z0.toInt = ρ 2 := z2
  have w2 : w0.toInt = ρ 3 := w2
  have u2 : u0.toInt = ρ 4 := u2
  have k2 : k0.toInt = ρ 5 := k2
  have b5 : 17 ≤ ρ 5 ∧ ρ 5 ≤ 17 := b5
  have e0 : 0 + (1 * ρ 0 + (-1 * ρ 6 + 0)) ≤ 0 := e0
  have f0 : 0 + (-1 * ρ 0 + (1 * ρ 6 + 0)) ≤ 0 := f0
  have e1 : 0 + (1 * ρ 1 + (-1 * ρ 7 + 0)) ≤ 0 := e1
  have f1 : 0 + (-1 * ρ 1 + (1 * ρ 7 + 0)) ≤ 0 := f1
  have e2 : 0 + (1 * ρ 2 + (-1 * ρ 8 + 0)) ≤ 0 := e2
  have f2 : 0 + (-1 * ρ 2 + (1 * ρ 8 + 0)) ≤ 0 := f2
  have e3 : 0 + (1 * ρ 3 + (-1 * ρ 9 + 0)) ≤ 0 := e3
  have f3 : 0 + (-1 * ρ 3 + (1 * ρ 9 + 0)) ≤ 0 := f3
  have e4 : 0 + (1 * ρ 4 + (-1 * ρ 10 + 0)) ≤ 0 := e4
  have f4 : 0 + (-1 * ρ 4 + (1 * ρ 10 + 0)) ≤ 0 := f4
  have p11 : ρ0 12 = ρ 11 := p11
  have q0 : x0 = ar 0 := Int32.toInt_inj.mp (by omega)
  have q1 : y0 = ar 1 := Int32.toInt_inj.mp (by omega)
  have q2 : z0 = ar 2 := Int32.toInt_inj.mp (by omega)
  have q3 : w0 = ar 3 := Int32.toInt_inj.mp (by omega)
  have q4 : u0 = ar 4 := Int32.toInt_inj.mp (by omega)
  have q5 : k0 = 17 := Int32.toInt_inj.mp (by rw [k2]; show _ = (17 : Int); omega)
  obtain ⟨r1, rfl, s1⟩ := yarg x1
  rw [s1 1 (by decide)] at y1
  rw [s1 2 (by decide)] at z1
  rw [s1 3 (by decide)] at w1
  rw [s1 4 (by decide)] at u1
  rw [s1 5 (by decide)] at k1
  obtain ⟨r2, rfl, s2⟩ := yarg y1
  rw [s2 2 (by decide)] at z1
  rw [s2 3 (by decide)] at w1
  rw [s2 4 (by decide)] at u1
  rw [s2 5 (by decide)] at k1
  obtain ⟨r3, rfl, s3⟩ := yarg z1
  rw [s3 3 (by decide)] at w1
  rw [s3 4 (by decide)] at u1
  rw [s3 5 (by decide)] at k1
  obtain ⟨r4, rfl, s4⟩ := yarg w1
  rw [s4 4 (by decide)] at u1
  rw [s4 5 (by decide)] at k1
  obtain ⟨r5, rfl, s5⟩ := yarg u1
  rw [s5 5 (by decide)] at k1
  obtain ⟨r6, rfl, s6⟩ := yarg k1
  obtain ⟨mm, run⟩ := ybyte17 x0 y0 z0 w0 u0 r6 d h
  rw [← q5, yby_c (ar' := ar) (by exact q0) (by exact q1) (by exact q2) (by exact q3) (by exact q4)] at run
  have bb := yby_b ar 17
  by_cases hz : yby ar 17 = 0
  · rw [if_pos hz] at g5
    refine ⟨mm, _, h, run, hG, fun _ _ hne => absurd rfl hne, _, List.mem_cons_self .., yexM (fun j => ρ0 (j + 1)) (fun j _ => rfl) ya0 (ya1 ?_ ya0) ya0 ?_⟩
    · show 0 + (1 * ρ0 12 + 0) ≤ 0
      rw [p11]
      omega
    · show (yby ar 17).toInt = 0 + 0
      rw [hz]
      rfl
  · rw [if_neg hz] at g5
    have hz1 : (yby ar 17).toInt ≠ 0 := fun e => hz (Int32.toInt_inj.mp e)
    refine ⟨mm, _, h, run, hG, fun _ _ hne => absurd rfl hne, _, List.mem_cons_of_mem _ (List.mem_cons_self ..), yexM (fun j => if j = 12 then (yby ar 17).toInt else ρ0 (j + 1)) ?_ (ya1 ?_ ya0) (ya1 ?_ ya0) ya0 ?_⟩
    · intro j hj
      have hj : j < 12 := hj
      show (if j = 12 then _ else ρ0 (j + 1)) = _
      rw [if_neg (by omega)]
    · show 1 ≤ (yby ar 17).toInt ∧ (yby ar 17).toInt ≤ 255
      omega
    · show 1 + (-1 * ρ0 12 + 0) ≤ 0
      rw [p11]
      omega
    · show (yby ar 17).toInt = 0 + (1 * (yby ar 17).toInt + 0)
      omega
theorem yT30_ok {t s : Nat} (ht : t < 5) {c0 v0 : Nat → Int} {ar : Nat → Int32} : ySum (yGv t s c0 v0 ar) yT30 := by
  intro args h ρ ρ0 hG hM d hd
  obtain ⟨-, ⟨⟨x0, x1, x2⟩, ⟨y0, y1, y2⟩, ⟨z0, z1, z2⟩, ⟨w0, w1, w2⟩, ⟨u0, u1, u2⟩, ⟨k0, k1, k2⟩, m0, m1, m2, m3, m4, m5, -⟩, ⟨-, -, -, -, -, b5, -⟩, ⟨e0, f0, e1, f1, e2, f2, e3, f3, e4, f4, -⟩, ⟨-, -, -, -, -, -, -, -, -, -, -, p11, -⟩, -⟩ := yun hM
  have g0 : (ar 0).toInt = sv ρ (sY 6) := ysm_gu (a := 15) m0
  have g1 : (ar 1).toInt = sv ρ (sY 7) := ysm_gu (a := 16) m1
  have g2 : (ar 2).toInt = sv ρ (sY 8) := ysm_gu (a := 17) m2
  have g3 : (ar 3).toInt = sv ρ (sY 9) := ysm_gu (a := 18) m3
  have g4 : (ar 4).toInt = sv ρ (sY 10) := ysm_gu (a := 19) m4
  have g5 : (if yby ar 18 = 0 then (0 : Int) else 1) = sv ρ (sY 11) := ysm_gu (a := 38) m5
  rw [sY_v] at g0 g1 g2 g3 g4 g5
  have x2 : x0.toInt = ρ 0 := x2
  have y2 : y0.toInt = ρ 1 := y2
  have z2 : z0.toInt = ρ 2 := z2
  have w2 : w0.toInt = ρ 3 := w2
  have u2 : u0.toInt = ρ 4 := u2
  have k2 : k0.toInt = ρ 5 := k2
  have b5 : 18 ≤ ρ 5 ∧ ρ 5 ≤ 18 := b5
  have e0 : 0 + (1 * ρ 0 + (-1 * ρ 6 + 0)) ≤ 0 := e0
  have f0 : 0 + (-1 * ρ 0 + (1 * ρ 6 + 0)) ≤ 0 := f0
  have e1 : 0 + (1 * ρ 1 + (-1 * ρ 7 + 0)) ≤ 0 := e1
  have f1 : 0 + (-1 * ρ 1 + (1 * ρ 7 + 0)) ≤ 0 := f1
  have e2 : 0 + (1 * ρ 2 + (-1 * ρ 8 + 0)) ≤ 0 := e2
  have f2 : 0 + (-1 * ρ 2 + (1 * ρ 8 + 0)) ≤ 0 := f2
  have e3 : 0 + (1 * ρ 3 + (-1 * ρ 9 + 0)) ≤ 0 := e3
  have f3 : 0 + (-1 * ρ 3 + (1 * ρ 9 + 0)) ≤ 0 := f3
  have e4 : 0 + (1 * ρ 4 + (-1 * ρ 10 + 0)) ≤ 0 := e4
  have f4 : 0 + (-1 * ρ 4 + (1 * ρ 10 + 0)) ≤ 0 := f4
  have p11 : ρ0 12 = ρ 11 := p11
  have q0 : x0 = ar 0 := Int32.toInt_inj.mp (by omega)
  have q1 : y0 = ar 1 := Int32.toInt_inj.mp (by omega)
  have q2 : z0 = ar 2 := Int32.toInt_inj.mp (by omega)
  have q3 : w0 = ar 3 := Int32.toInt_inj.mp (by omega)
  have q4 : u0 = ar 4 := Int32.toInt_inj.mp (by omega)
  have q5 : k0 = 18 := Int32.toInt_inj.mp (by rw [k2]; show _ = (18 : Int); omega)
  obtain ⟨r1, rfl, s1⟩ := yarg x1
  rw [s1 1 (by decide)] at y1
  rw [s1 2 (by decide)] at z1
  rw [s1 3 (by decide)] at w1
  rw [s1 4 (by decide)] at u1
  rw [s1 5 (by decide)] at k1
  obtain ⟨r2, rfl, s2⟩ := yarg y1
  rw [s2 2 (by decide)] at z1
  rw [s2 3 (by decide)] at w1
  rw [s2 4 (by decide)] at u1
  rw [s2 5 (by decide)] at k1
  obtain ⟨r3, rfl, s3⟩ := yarg z1
  rw [s3 3 (by decide)] at w1
  rw [s3 4 (by decide)] at u1
  rw [s3 5 (by decide)] at k1
  obtain ⟨r4, rfl, s4⟩ := yarg w1
  rw [s4 4 (by decide)] at u1
  rw [s4 5 (by decide)] at k1
  obtain ⟨r5, rfl, s5⟩ := yarg u1
  rw [s5 5 (by decide)] at k1
  obtain ⟨r6, rfl, s6⟩ := yarg k1
  obtain ⟨mm, run⟩ := ybyte18 x0 y0 z0 w0 u0 r6 d h
  rw [← q5, yby_c (ar' := ar) (by exact q0) (by exact q1) (by exact q2) (by exact q3) (by exact q4)] at run
  have bb := yby_b ar 18
  by_cases hz : yby ar 18 = 0
  · rw [if_pos hz] at g5
    refine ⟨mm, _, h, run, hG, fun _ _ hne => absurd rfl hne, _, List.mem_cons_self .., yexM (fun j => ρ0 (j + 1)) (fun j _ => rfl) ya0 (ya1 ?_ ya0) ya0 ?_⟩
    · show 0 + (1 * ρ0 12 + 0) ≤ 0
      rw [p11]
      omega
    · show (yby ar 18).toInt = 0 + 0
      rw [hz]
      rfl
  · rw [if_neg hz] at g5
    have hz1 : (yby ar 18).toInt ≠ 0 := fun e => hz (Int32.toInt_inj.mp e)
    refine ⟨mm, _, h, run, hG, fun _ _ hne => absurd rfl hne, _, List.mem_cons_of_mem _ (List.mem_cons_self ..), yexM (fun j => if j = 12 then (yby ar 18).toInt else ρ0 (j + 1)) ?_ (ya1 ?_ ya0) (ya1 ?_ ya0) ya0 ?_⟩
    · intro j hj
      have hj : j < 12 := hj
      show (if j = 12 then _ else ρ0 (j + 1)) = _
      rw [if_neg (by omega)]
    · show 1 ≤ (yby ar 18).toInt ∧ (yby ar 18).toInt ≤ 255
      omega
    · show 1 + (-1 * ρ0 12 + 0) ≤ 0
      rw [p11]
      omega
    · show (yby ar 18).toInt = 0 + (1 * (yby ar 18).toInt + 0)
      omega
theorem yT31_ok {t s : Nat} (ht : t < 5) {c0 v0 : Nat → Int} {ar : Nat → Int32} : ySum (yGv t s c0 v0 ar) yT31 := by
  intro args h ρ ρ0 hG hM d hd
  obtain ⟨-, ⟨⟨x0, x1, x2⟩, ⟨y0, y1, y2⟩, ⟨z0, z1, z2⟩, ⟨w0, w1, w2⟩, ⟨u0, u1, u2⟩, ⟨k0, k1, k2⟩, m0, m1, m2, m3, m4, m5, -⟩, ⟨-, -, -, -, -, b5, -⟩, ⟨e0, f0, e1, f1, e2, f2, e3, f3, e4, f4, -⟩, ⟨-, -, -, -, -, -, -, -, -, -, -, p11, -⟩, -⟩ := yun hM
  have g0 : (ar 0).toInt = sv ρ (sY 6) := ysm_gu (a := 15) m0
  have g1 : (ar 1).toInt = sv ρ (sY 7) := ysm_gu (a := 16) m1
  have g2 : (ar 2).toInt = sv ρ (sY 8) := ysm_gu (a := 17) m2
  have g3 : (ar 3).toInt = sv ρ (sY 9) := ysm_gu (a := 18) m3
  have g4 : (ar 4).toInt = sv ρ (sY 10) := ysm_gu (a := 19) m4
  have g5 : (if yby ar 19 = 0 then (0 : Int) else 1) = sv ρ (sY 11) := ysm_gu (a := 39) m5
  rw [sY_v] at g0 g1 g2 g3 g4 g5
  have x2 : x0.toInt = ρ 0 := x2
  have y2 : y0.toInt = ρ 1 := y2
  have z2 : z0.toInt = ρ 2 := z2
  have w2 : w0.toInt = ρ 3 := w2
  have u2 : u0.toInt = ρ 4 := u2
  have k2 : k0.toInt = ρ 5 := k2
  have b5 : 19 ≤ ρ 5 ∧ ρ 5 ≤ 19 := b5
  have e0 : 0 + (1 * ρ 0 + (-1 * ρ 6 + 0)) ≤ 0 := e0
  have f0 : 0 + (-1 * ρ 0 + (1 * ρ 6 + 0)) ≤ 0 := f0
  have e1 : 0 + (1 * ρ 1 + (-1 * ρ 7 + 0)) ≤ 0 := e1
  have f1 : 0 + (-1 * ρ 1 + (1 * ρ 7 + 0)) ≤ 0 := f1
  have e2 : 0 + (1 * ρ 2 + (-1 * ρ 8 + 0)) ≤ 0 := e2
  have f2 : 0 + (-1 * ρ 2 + (1 * ρ 8 + 0)) ≤ 0 := f2
  have e3 : 0 + (1 * ρ 3 + (-1 * ρ 9 + 0)) ≤ 0 := e3
  have f3 : 0 + (-1 * ρ 3 + (1 * ρ 9 + 0)) ≤ 0 := f3
  have e4 : 0 + (1 * ρ 4 + (-1 * ρ 10 + 0)) ≤ 0 := e4
  have f4 : 0 + (-1 * ρ 4 + (1 * ρ 10 + 0)) ≤ 0 := f4
  have p11 : ρ0 12 = ρ 11 := p11
  have q0 : x0 = ar 0 := Int32.toInt_inj.mp (by omega)
  have q1 : y0 = ar 1 := Int32.toInt_inj.mp (by omega)
  have q2 : z0 = ar 2 := Int32.toInt_inj.mp (by omega)
  have q3 : w0 = ar 3 := Int32.toInt_inj.mp (by omega)
  have q4 : u0 = ar 4 := Int32.toInt_inj.mp (by omega)
  have q5 : k0 = 19 := Int32.toInt_inj.mp (by rw [k2]; show _ = (19 : Int); omega)
  obtain ⟨r1, rfl, s1⟩ := yarg x1
  rw [s1 1 (by decide)] at y1
  rw [s1 2 (by decide)] at z1
  rw [s1 3 (by decide)] at w1
  rw [s1 4 (by decide)] at u1
  rw [s1 5 (by decide)] at k1
  obtain ⟨r2, rfl, s2⟩ := yarg y1
  rw [s2 2 (by decide)] at z1
  rw [s2 3 (by decide)] at w1
  rw [s2 4 (by decide)] at u1
  rw [s2 5 (by decide)] at k1
  obtain ⟨r3, rfl, s3⟩ := yarg z1
  rw [s3 3 (by decide)] at w1
  rw [s3 4 (by decide)] at u1
  rw [s3 5 (by decide)] at k1
  obtain ⟨r4, rfl, s4⟩ := yarg w1
  rw [s4 4 (by decide)] at u1
  rw [s4 5 (by decide)] at k1
  obtain ⟨r5, rfl, s5⟩ := yarg u1
  rw [s5 5 (by decide)] at k1
  obtain ⟨r6, rfl, s6⟩ := yarg k1
  obtain ⟨mm, run⟩ := ybyte19 x0 y0 z0 w0 u0 r6 d h
  rw [← q5, yby_c (ar' := ar) (by exact q0) (by exact q1) (by exact q2) (by exact q3) (by exact q4)] at run
  have bb := yby_b ar 19
  by_cases hz : yby ar 19 = 0
  · rw [if_pos hz] at g5
    refine ⟨mm, _, h, run, hG, fun _ _ hne => absurd rfl hne, _, List.mem_cons_self .., yexM (fun j => ρ0 (j + 1)) (fun j _ => rfl) ya0 (ya1 ?_ ya0) ya0 ?_⟩
    · show 0 + (1 * ρ0 12 + 0) ≤ 0
      rw [p11]
      omega
    · show (yby ar 19).toInt = 0 + 0
      rw [hz]
      rfl
  · rw [if_neg hz] at g5
    have hz1 : (yby ar 19).toInt ≠ 0 := fun e => hz (Int32.toInt_inj.mp e)
    refine ⟨mm, _, h, run, hG, fun _ _ hne => absurd rfl hne, _, List.mem_cons_of_mem _ (List.mem_cons_self ..), yexM (fun j => if j = 12 then (yby ar 19).toInt else ρ0 (j + 1)) ?_ (ya1 ?_ ya0) (ya1 ?_ ya0) ya0 ?_⟩
    · intro j hj
      have hj : j < 12 := hj
      show (if j = 12 then _ else ρ0 (j + 1)) = _
      rw [if_neg (by omega)]
    · show 1 ≤ (yby ar 19).toInt ∧ (yby ar 19).toInt ≤ 255
      omega
    · show 1 + (-1 * ρ0 12 + 0) ≤ 0
      rw [p11]
      omega
    · show (yby ar 19).toInt = 0 + (1 * (yby ar 19).toInt + 0)
      omega
/-! sumOf from 6, by hand -/
theorem yst_2 {mid pc : Nat} {loc : zL} {stk : List zV} {h : zH} {i : Instr} {q : zN} (e1 : zf1 i pc loc stk h = none) (e : zf2 yTab (yFld mid) i pc loc stk h = some q) : zst yTab yFld yKI yKL yGst yLdS yFldS yAcp mid i pc loc stk h = some q := by
  unfold zst
  rw [e1]
  show (match zf2 yTab (yFld mid) i pc loc stk h with | some q => some q | none => _) = some q
  rw [e]
section YSM
variable {n d : Nat} {loc : zL} {stk : List zV} {h : zH}
theorem ygf {mid pc idx k fi t b : Nat} (hi : yPI mid pc = some (.getfield idx)) (hf : zfo yTab (yFld mid) k idx = some (fi, t, b)) : yz (n + 1) d mid pc loc (.inr (.inr k) :: stk) h = yz n d mid (pc + 3) loc (zfa h k fi t :: stk) h :=
  ystp hi rfl rfl (yst_2 rfl (by
    show zoF (zfo yTab (yFld mid) k idx) (fun fi t _ => some (pc + 3, loc, zfa h k fi t :: stk, h)) = _
    rw [hf]
    rfl))
theorem yal {mid pc : Nat} {k : Fin 4} {x : Nat} (hi : yPI mid pc = some (.aload_n k)) (hk : zget loc k.val = some (.inr (.inr x))) : yz (n + 1) d mid pc loc stk h = yz n d mid (pc + 1) loc (.inr (.inr x) :: stk) h :=
  ystp hi rfl rfl (yst_1 (by show zog loc k.val _ = _; unfold zog; rw [hk]; rfl))
theorem yia {mid pc k m : Nat} {q : List Nat} {x : Int32} (hi : yPI mid pc = some .iaload) (hz : zar yTab k 0 = some (m, q)) (hx : zin x m = true) : yz (n + 1) d mid pc loc (.inl x :: .inr (.inr k) :: stk) h = yz n d mid (pc + 1) loc (.inl (h.1 k x.toNatClampNeg) :: stk) h :=
  ystp hi rfl rfl (yst_2 rfl (by
    show zoA (zar yTab k 0) (fun n _ => zgd (zin x n) (some (pc + 1, loc, .inl (h.1 k x.toNatClampNeg) :: stk, h))) = _
    rw [hz]
    show zgd (zin x m) (some (pc + 1, loc, .inl (h.1 k x.toNatClampNeg) :: stk, h)) = _
    unfold zgd
    rw [if_pos hx]))
theorem yinc {mid pc k : Nat} {c : Int} {x : Int32} (hi : yPI mid pc = some (.iinc k c)) (hk : zget loc k = some (.inl x)) : yz (n + 1) d mid pc loc stk h = yz n d mid (pc + 3) (zput1 loc k (.inl (x + Int32.ofInt c))) stk h :=
  ystp hi rfl rfl (yst_1 (by
    show (match zget loc k with | some (.inl x) => some (pc + 3, zput1 loc k (.inl (x + Int32.ofInt c)), stk, h) | _ => none) = _
    rw [hk]))
end YSM
/-- the locals of the loop -/
noncomputable def ysl (loc : zL) (s k : Int32) : Prop := zget loc 0 = some (.inr (.inr 440)) ∧ zget loc 1 = some (.inl (Int32.ofInt 6)) ∧ zget loc 2 = some (.inl s) ∧ zget loc 3 = some (.inl k)
theorem ysl_n {loc : zL} {s k s' : Int32} (hl : ysl loc s k) : ysl (zput1 (zput1 loc 2 (.inl s')) 3 (.inl (k + Int32.ofInt 1))) s' (k + Int32.ofInt 1) := by
  obtain ⟨l0, l1, l2, l3⟩ := hl
  have nc : ∀ {x : Int32}, ¬ zcat (.inl x) = 2 := fun {x} => by show ¬ (1 = 2); decide
  have nr : ¬ zcat (.inr (.inr 440)) = 2 := by show ¬ (1 = 2); decide
  have p0 := zget_put1o (v := .inl s') l0 (k := 2) (by decide) (fun e => nr e.2)
  have p1 := zget_put1o (v := .inl s') l1 (k := 2) (by decide) (fun e => nc e.2)
  have p2 : zget (zput1 loc 2 (.inl s')) 2 = some (.inl s') := zget_put1
  exact ⟨zget_put1o p0 (by decide) (fun e => nr e.2), zget_put1o p1 (by decide) (fun e => nc e.2), zget_put1o p2 (by decide) (fun e => nc e.2), zget_put1⟩
theorem ysumL {h : zH} (hG : sG yReg yG h) {dd m : Nat} (hm : m ≤ 6) (e : yv h 440 22 = m) : ∀ (j k : Nat) (loc : zL) (s kk : Int32), j + k = m → kk.toInt = k → s = ysm h k → ysl loc s kk → ∃ n, yz n dd 189 4 loc [] h = some (some (.inl (ysm h m)), h)
  | 0, k, loc, s, kk, hj, hk, hs, hl => by
    obtain ⟨l0, l1, l2, l3⟩ := hl
    have hge : h.1 440 22 ≤ kk := by
      rw [Int32.le_iff_toInt_le, hk]
      have : (h.1 440 22).toInt = m := e
      omega
    refine ⟨6, ?_⟩
    refine (ybin (k := 3) (by decide +kernel) l3).trans ?_
    refine (yal (k := 0) (by decide +kernel) l0).trans ?_
    refine (ygf (idx := 270) (fi := 22) (t := 0) (b := 0) (by decide +kernel) (by decide +kernel)).trans ?_
    refine (ybge (off := 20) (by decide +kernel) (by decide) hge).trans ?_
    refine (ybin (k := 2) (by decide +kernel) l2).trans ?_
    refine (yend (i := .ireturn) (by decide +kernel) rfl rfl).trans ?_
    have : k = m := by omega
    rw [hs, this]
  | j + 1, k, loc, s, kk, hj, hk, hs, hl => by
    obtain ⟨l0, l1, l2, l3⟩ := hl
    have hlt : ¬ h.1 440 22 ≤ kk := by
      rw [Int32.le_iff_toInt_le, hk]
      have : (h.1 440 22).toInt = m := e
      omega
    have hx : (Int32.ofInt 6 + kk).toInt = 6 + k := by
      rw [sadd32 _ _ (by rw [hk]; show -2147483648 ≤ 6 + (k : Int); omega) (by rw [hk]; show 6 + (k : Int) ≤ 2147483647; omega), hk]
      rfl
    have hin : zin (Int32.ofInt 6 + kk) 220 = true := decide_eq_true (by rw [hx]; omega)
    have hcl : (Int32.ofInt 6 + kk).toNatClampNeg = 6 + k := by
      show (Int32.ofInt 6 + kk).toInt.toNat = 6 + k
      rw [hx]
      omega
    have hk1 : (kk + Int32.ofInt 1).toInt = ((k + 1 : Nat) : Int) := by
      rw [sadd32 _ _ (by rw [hk]; show -2147483648 ≤ (k : Int) + 1; omega) (by rw [hk]; show (k : Int) + 1 ≤ 2147483647; omega), hk]
      rfl
    obtain ⟨n, hn⟩ := ysumL hG (dd := dd) hm e j (k + 1) _ (s + h.1 421 (6 + k)) (kk + Int32.ofInt 1) (by omega) hk1 (by rw [hs]; rfl) (ysl_n (loc := loc) (s := s) (k := kk) ⟨l0, l1, l2, l3⟩)
    refine ⟨n + 15, ?_⟩
    refine (ybin (k := 3) (by decide +kernel) l3).trans ?_
    refine (yal (k := 0) (by decide +kernel) l0).trans ?_
    refine (ygf (idx := 270) (fi := 22) (t := 0) (b := 0) (by decide +kernel) (by decide +kernel)).trans ?_
    refine (ybgn (off := 20) (by decide +kernel) (by decide) hlt).trans ?_
    refine (ybin (k := 2) (by decide +kernel) l2).trans ?_
    refine (yal (k := 0) (by decide +kernel) l0).trans ?_
    refine (ygf (idx := 52) (fi := 23) (t := 423) (b := 3) (by decide +kernel) (by decide +kernel)).trans ?_
    refine (ybin (k := 1) (by decide +kernel) l1).trans ?_
    refine (ybin (k := 3) (by decide +kernel) l3).trans ?_
    refine (ystp (i := .iadd) (by decide +kernel) rfl rfl (yst_1 rfl)).trans ?_
    refine (yia (m := 220) (q := []) (by decide +kernel) (by decide +kernel) hin).trans ?_
    refine (ystp (i := .iadd) (by decide +kernel) rfl rfl (yst_1 rfl)).trans ?_
    rw [hcl]
    refine (ystp (i := .istore_n 2) (by decide +kernel) rfl rfl (yst_1 rfl)).trans ?_
    refine (yinc (k := 3) (c := 1) (x := kk) (by decide +kernel) ?_).trans ?_
    · exact zget_put1o l3 (by decide) (fun e => absurd e.2 (by show ¬ (1 = 2); decide))
    refine (ybgo (off := -22) (by decide +kernel) (by decide)).trans ?_
    exact hn
theorem yT32_ok {t s : Nat} (ht : t < 5) {c0 v0 : Nat → Int} {ar : Nat → Int32} : ySum (yGv t s c0 v0 ar) yT32 := by
  intro args h ρ ρ0 hG hM d hd
  obtain ⟨⟨⟨k, k1, k2⟩, -⟩, ⟨⟨c, c1, c2⟩, m1, m2, -⟩, ⟨b0, b1, -⟩, -, ⟨-, -, p2, -⟩, -⟩ := yun hM
  have hk := yref k2
  subst hk
  have c2 : c.toInt = ρ 0 := c2
  have b0 : 6 ≤ ρ 0 ∧ ρ 0 ≤ 6 := b0
  have b1 : 0 ≤ ρ 1 ∧ ρ 1 ≤ 6 := b1
  have p2 : ρ0 3 = ρ 2 := p2
  have hc : c = Int32.ofInt 6 := Int32.toInt_inj.mp (by rw [c2]; show ρ 0 = 6; omega)
  subst hc
  have mn := ysm_u (k := 440) (by decide) (by decide +kernel) m1 22 rfl
  rw [sY_v] at mn
  have mn : yv h 440 22 = ρ 1 := mn
  obtain ⟨m, hm⟩ : ∃ x : Nat, ρ 1 = x := ⟨(ρ 1).toNat, by omega⟩
  have g : yGv t s c0 v0 ar 40 h = ρ 2 := by
    have := ysm_gu (a := 40) m2
    rw [sY_v] at this
    exact this
  have g : (ysm h (min 6 (yv h 440 22).toNat)).toInt = ρ 2 := g
  rw [mn, hm, show min 6 ((m : Int).toNat) = m by omega] at g
  have nr : ¬ zcat (.inr (.inr 440)) = 2 := by show ¬ (1 = 2); decide
  have nc : ∀ {x : Int32}, ¬ zcat (.inl x) = 2 := fun {x} => by show ¬ (1 = 2); decide
  have q0 := zget_put1o (v := .inl (Int32.ofInt 0)) k1 (k := 2) (by decide) (fun e => nr e.2)
  have q1 := zget_put1o (v := .inl (Int32.ofInt 0)) c1 (k := 2) (by decide) (fun e => nc e.2)
  have q2 : zget (zput1 (zent 0 args) 2 (.inl (Int32.ofInt 0))) 2 = some (.inl (Int32.ofInt 0)) := zget_put1
  obtain ⟨n, hn⟩ := ysumL hG (dd := d) (m := m) (by omega) (mn.trans hm) m 0 (zput1 (zput1 (zent 0 args) 2 (.inl (Int32.ofInt 0))) 3 (.inl (Int32.ofInt 0))) (Int32.ofInt 0) (Int32.ofInt 0) (by omega) (by decide) rfl ⟨zget_put1o q0 (by decide) (fun e => nr e.2), zget_put1o q1 (by decide) (fun e => nc e.2), zget_put1o q2 (by decide) (fun e => nc e.2), zget_put1⟩
  refine ⟨n + 4, some (.inl (ysm h m)), h, ?_, hG, fun _ _ hne => absurd rfl hne, _, List.mem_cons_self .., yexM (fun j => ρ0 (j + 1)) (fun j _ => rfl) ya0 ya0 ya0 ?_⟩
  · refine (ystp (n := n + 3) (i := .iconst 0) (by decide +kernel) rfl rfl (yst_1 rfl)).trans ?_
    refine (ystp (i := .istore_n 2) (by decide +kernel) rfl rfl (yst_1 rfl)).trans ?_
    refine (ystp (i := .iconst 0) (by decide +kernel) rfl rfl (yst_1 rfl)).trans ?_
    refine (ystp (i := .istore_n 3) (by decide +kernel) rfl rfl (yst_1 rfl)).trans ?_
    exact hn
  · show (ysm h m).toInt = 0 + (1 * ρ0 3 + 0)
    rw [g, p2]
    omega
