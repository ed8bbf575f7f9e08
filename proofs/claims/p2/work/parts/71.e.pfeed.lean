/-! feed: ghosts for the bytes, and the pair -/
noncomputable def fdU (a : Int32) : Int := if a.toInt < 0 then a.toInt + 4294967296 else a.toInt
noncomputable def fdB (a : Int32) (j : Nat) : Int := if j = 0 then fdU a / 16777216 else if j = 1 then fdU a / 65536 % 256 else if j = 2 then fdU a / 256 % 256 else fdU a % 256
noncomputable def fdS (a : Int32) : Int := if a.toInt < 0 then 1 else 0
noncomputable def fdA (a b c d e : Int32) (i : Nat) : Int32 := if i = 0 then a else if i = 1 then b else if i = 2 then c else if i = 3 then d else e
noncomputable def fdW (a b c d e : Int32) (k : Nat) : Int := fdB (fdA a b c d e (k / 4)) (k % 4)
theorem fdU_b (a : Int32) : 0 ≤ fdU a ∧ fdU a ≤ 4294967295 := by
  have := si32 a
  unfold fdU
  split <;> omega
theorem fdB_b (a : Int32) (j : Nat) : 0 ≤ fdB a j ∧ fdB a j ≤ 255 := by
  have := fdU_b a
  unfold fdB
  split
  · omega
  · split
    · omega
    · split <;> omega
theorem fdS_b (a : Int32) : 0 ≤ fdS a ∧ fdS a ≤ 1 := by
  unfold fdS
  split <;> omega
theorem fdB_e (a : Int32) : a.toInt = 16777216 * fdB a 0 + 65536 * fdB a 1 + 256 * fdB a 2 + fdB a 3 - 4294967296 * fdS a := by
  have h := fdU_b a
  have e : fdU a = a.toInt + 4294967296 * fdS a := by
    unfold fdU fdS
    split <;> omega
  have b0 : fdB a 0 = fdU a / 16777216 := rfl
  have b1 : fdB a 1 = fdU a / 65536 % 256 := rfl
  have b2 : fdB a 2 = fdU a / 256 % 256 := rfl
  have b3 : fdB a 3 = fdU a % 256 := rfl
  have k1 : fdU a / 65536 / 256 = fdU a / 16777216 := by omega
  have k2 : fdU a / 256 / 256 = fdU a / 65536 := by omega
  rw [b0, b1, b2, b3]
  omega
theorem fdW_b (a b c d e : Int32) (k : Nat) : 0 ≤ fdW a b c d e k ∧ fdW a b c d e k ≤ 255 := fdB_b _ _
noncomputable def fdN (n : Nat) (W : Nat → Int) : Nat → Nat
  | 0 => n
  | k + 1 => if W k = 0 then fdN n W k else fdN n W k + 1
noncomputable def fdT (n : Nat) (o W : Nat → Int) : Nat → Nat → Int
  | 0, i => if i < n then o i else 0
  | k + 1, i => if W k ≠ 0 ∧ i = fdN n W k then W k else fdT n o W k i
section FDT
variable {n : Nat} {o W : Nat → Int}
theorem fdN_le : ∀ k : Nat, n ≤ fdN n W k ∧ fdN n W k ≤ n + k := by
  intro k
  induction k with
  | zero => exact ⟨Nat.le_refl _, Nat.le_refl _⟩
  | succ k ih =>
    show n ≤ (if W k = 0 then fdN n W k else fdN n W k + 1) ∧ (if W k = 0 then fdN n W k else fdN n W k + 1) ≤ n + (k + 1)
    by_cases w : W k = 0
    · rw [if_pos w]
      omega
    · rw [if_neg w]
      omega
theorem fdN_s (k : Nat) : fdN n W k ≤ fdN n W (k + 1) := by
  show fdN n W k ≤ if W k = 0 then fdN n W k else fdN n W k + 1
  split <;> omega
theorem fdT_s {k i : Nat} (h : i < fdN n W k) : fdT n o W (k + 1) i = fdT n o W k i := by
  show (if W k ≠ 0 ∧ i = fdN n W k then W k else fdT n o W k i) = _
  exact if_neg (fun q => by omega)
theorem fdT_k {k i : Nat} : ∀ m : Nat, i < fdN n W k → i < fdN n W (k + m) ∧ fdT n o W (k + m) i = fdT n o W k i := by
  intro m h
  induction m with
  | zero => exact ⟨h, rfl⟩
  | succ m ih => exact ⟨Nat.lt_of_lt_of_le ih.1 (fdN_s (k + m)), (fdT_s ih.1).trans ih.2⟩
theorem fdT_at {k K : Nat} (hk : k < K) (hw : W k ≠ 0) : fdT n o W K (fdN n W k) = W k := by
  obtain ⟨m, rfl⟩ : ∃ m, K = k + 1 + m := ⟨K - (k + 1), by omega⟩
  have e : fdN n W (k + 1) = fdN n W k + 1 := if_neg hw
  rw [(fdT_k (o := o) (k := k + 1) m (by rw [e]; exact Nat.lt_succ_self _)).2]
  exact if_pos ⟨hw, rfl⟩
theorem fdT_old {i K : Nat} (hi : i < n) : fdT n o W K i = o i := by
  have := (fdT_k (n := n) (o := o) (W := W) (k := 0) (i := i) K hi).2
  rw [Nat.zero_add] at this
  rw [this]
  exact if_pos hi
theorem fdT_b (ho : ∀ i, i < n → 0 ≤ o i ∧ o i ≤ 255) (hW : ∀ k, 0 ≤ W k ∧ W k ≤ 255) (i : Nat) : ∀ K : Nat, 0 ≤ fdT n o W K i ∧ fdT n o W K i ≤ 255 := by
  intro K
  induction K with
  | zero =>
    show 0 ≤ (if i < n then o i else 0) ∧ (if i < n then o i else 0) ≤ 255
    by_cases h : i < n
    · rw [if_pos h]
      exact ho i h
    · rw [if_neg h]
      decide
  | succ K ih =>
    show 0 ≤ (if W K ≠ 0 ∧ i = fdN n W K then W K else fdT n o W K i) ∧ (if W K ≠ 0 ∧ i = fdN n W K then W K else fdT n o W K i) ≤ 255
    by_cases h : W K ≠ 0 ∧ i = fdN n W K
    · rw [if_pos h]
      exact hW K
    · rw [if_neg h]
      exact ih
theorem fdT_p (ho : ∀ i, i < n → 1 ≤ o i) (hW : ∀ k, 0 ≤ W k ∧ W k ≤ 255) {i : Nat} : ∀ K : Nat, i < fdN n W K → 1 ≤ fdT n o W K i := by
  intro K
  induction K with
  | zero =>
    intro h
    have h : i < n := h
    show 1 ≤ if i < n then o i else 0
    rw [if_pos h]
    exact ho i h
  | succ K ih =>
    intro h
    have h : i < (if W K = 0 then fdN n W K else fdN n W K + 1) := h
    show 1 ≤ if W K ≠ 0 ∧ i = fdN n W K then W K else fdT n o W K i
    by_cases h0 : W K = 0
    · rw [if_pos h0] at h
      rw [if_neg (fun q => q.1 h0)]
      exact ih h
    · rw [if_neg h0] at h
      by_cases hi : i = fdN n W K
      · rw [if_pos ⟨h0, hi⟩]
        have := hW K
        omega
      · rw [if_neg (fun q => hi q.2)]
        exact ih (by omega)
end FDT
/-- a heap that differs in ghost cells alone -/
theorem gAny_inv {h g : zH} (e : ∀ k i : Nat, ¬ (500 ≤ k ∧ k < 900 ∧ i ≤ 400000) → g.1 k i = h.1 k i) (hI : yInv h) : yInv g := by
  have hF : sF yReg [(999, 0, 400000)] h g := by
    intro k i hne
    by_cases hk : 500 ≤ k ∧ k < 900 ∧ i ≤ 400000
    · exact ⟨_, List.mem_singleton.mpr rfl, (yReg_d (by omega)).1, by show (0 : Int) ≤ (i : Int); omega, by show (i : Int) ≤ 400000; omega⟩
    · exact absurd (e k i hk) hne
  obtain ⟨hG, g4, g5, g6, g7, gm⟩ := hI
  refine ⟨?_, yfr4 hF (by decide +kernel) g4, yfr5 hF (by decide +kernel) g5, yfr6 hF (by decide +kernel) g6, yfr7 hF (by decide +kernel) g7, yfrm hF (by decide +kernel) gm⟩
  intro k z hz i h1 h2
  by_cases hk : 500 ≤ k ∧ k < 900
  · rw [(yReg_d (k := k) (by omega)).1, show yG 999 = [] by decide +kernel] at hz
    cases hz
  · rw [e k i (by omega)]
    exact hG k z hz i h1 h2
section GFEED
variable {h : zH} {a b c d e : Int32}
noncomputable def gfn (h : zH) : Nat := (h.1 353 1).toInt.toNat
noncomputable def gfo (h : zH) (i : Nat) : Int := (h.1 352 i).toInt
noncomputable def gfv (h : zH) (W S : Nat → Int) (r i : Nat) : Int := if r = 544 then (if i < 20 then W i else 0) else if r = 545 then (if i < 5 then S i else 0) else if r = 546 then (if i ≤ 20 then (fdN (gfn h) W i : Int) else 0) else fdT (gfn h) (gfo h) W 20 i
noncomputable def gFeed (h : zH) (W S : Nat → Int) : zH := (fun r i => if 544 ≤ r ∧ r ≤ 547 ∧ i ≤ 100000 then Int32.ofInt (gfv h W S r i) else (gFill h).1 r i, h.2)
section GFV
variable {W S : Nat → Int}
theorem gfv_b (hG : sG yReg yG h) (hr : r0 h) (hW : ∀ k, 0 ≤ W k ∧ W k ≤ 255) (hS : ∀ k, 0 ≤ S k ∧ S k ≤ 1) (r i : Nat) : 0 ≤ gfv h W S r i ∧ gfv h W S r i ≤ 260 ∧ (r ≠ 546 → gfv h W S r i ≤ 255) ∧ (r = 545 → gfv h W S r i ≤ 1) := by
  have h0 := gLen hG
  unfold gfv
  by_cases q1 : r = 544
  · rw [if_pos q1]
    have := hW i
    split <;> (refine ⟨by omega, by omega, fun _ => by omega, fun _ => by omega⟩)
  · rw [if_neg q1]
    by_cases q2 : r = 545
    · rw [if_pos q2]
      have := hS i
      split <;> (refine ⟨by omega, by omega, fun _ => by omega, fun _ => by omega⟩)
    · rw [if_neg q2]
      by_cases q3 : r = 546
      · rw [if_pos q3]
        have := fdN_le (n := gfn h) (W := W) i
        have e : gfn h ≤ 240 := by unfold gfn; omega
        split <;> (refine ⟨by omega, by omega, fun _ => by omega, fun _ => by omega⟩)
      · rw [if_neg q3]
        have := fdT_b (n := gfn h) (o := gfo h) (W := W) (fun j hj => by
          have := (hr.2.2 j (by unfold gfn at hj; omega)).2
          unfold gfo
          omega) hW i 20
        exact ⟨this.1, by omega, fun _ => this.2, fun q => absurd q q2⟩
theorem gFeed_g (hG : sG yReg yG h) (hr : r0 h) (hW : ∀ k, 0 ≤ W k ∧ W k ≤ 255) (hS : ∀ k, 0 ≤ S k ∧ S k ≤ 1) {r i : Nat} (h1 : 544 ≤ r) (h2 : r ≤ 547) (h3 : i ≤ 100000) : ((gFeed h W S).1 r i).toInt = gfv h W S r i := by
  have hb := gfv_b hG hr hW hS r i
  show (if 544 ≤ r ∧ r ≤ 547 ∧ i ≤ 100000 then Int32.ofInt (gfv h W S r i) else (gFill h).1 r i).toInt = _
  rw [if_pos ⟨h1, h2, h3⟩]
  exact so32 (by omega) (by omega)
theorem gFeed_f {r i : Nat} (hr : ¬ (544 ≤ r ∧ r ≤ 547 ∧ i ≤ 100000)) : (gFeed h W S).1 r i = (gFill h).1 r i := by
  show (if 544 ≤ r ∧ r ≤ 547 ∧ i ≤ 100000 then Int32.ofInt (gfv h W S r i) else (gFill h).1 r i) = _
  exact if_neg hr
theorem gFeed_o {r : Nat} (hr : r < 500 ∨ 900 ≤ r) (i : Nat) : (gFeed h W S).1 r i = h.1 r i := (gFeed_f (by omega)).trans (gFill_o hr i)
theorem gFeed_inv (hI : yInv h) : yInv (gFeed h W S) := gAny_inv (h := h) (fun k i hk => by
  rw [gFeed_f (by omega)]
  show (if 500 ≤ k ∧ k < 900 ∧ i ≤ 400000 then Int32.ofInt (gVal h k i) else h.1 k i) = _
  exact if_neg hk) hI
theorem gFeed_p (hG : sG yReg yG h) (hr : r0 h) (hW : ∀ k, 0 ≤ W k ∧ W k ≤ 255) (hS : ∀ k, 0 ≤ S k ∧ S k ≤ 1) : sG pReg pG (gFeed h W S) := by
  intro k z hz i h1 h2
  by_cases hk : 544 ≤ k ∧ k ≤ 547 ∧ i ≤ 100000
  · have hb := gfv_b hG hr hW hS k i
    rw [gFeed_g hG hr hW hS hk.1 hk.2.1 hk.2.2]
    rw [pReg_g (k := k) (by omega) (by omega)] at hz
    have cs : k = 544 ∨ k = 545 ∨ k = 546 ∨ k = 547 := by omega
    rcases cs with rfl | rfl | rfl | rfl
    · rw [show pG 544 = [(0, 99999, 0, 255)] by decide +kernel, List.mem_singleton] at hz
      subst hz
      exact ⟨hb.1, hb.2.2.1 (by decide)⟩
    · rw [show pG 545 = [(0, 99999, 0, 1)] by decide +kernel, List.mem_singleton] at hz
      subst hz
      exact ⟨hb.1, hb.2.2.2 rfl⟩
    · rw [show pG 546 = [(0, 99999, 0, 260)] by decide +kernel, List.mem_singleton] at hz
      subst hz
      exact ⟨hb.1, hb.2.1⟩
    · rw [show pG 547 = [(0, 99999, 0, 255)] by decide +kernel, List.mem_singleton] at hz
      subst hz
      exact ⟨hb.1, hb.2.2.1 (by decide)⟩
  · rw [gFeed_f hk]
    exact gFill_p hG k z hz i h1 h2
theorem gFeed_d (hG : sG yReg yG h) (hr : r0 h) (hW : ∀ k, 0 ≤ W k ∧ W k ≤ 255) (hS : ∀ k, 0 ≤ S k ∧ S k ≤ 1) : pgv 21 (gFeed h W S) = 1 := by
  refine (pgv21 _).trans (yB_1.mpr ?_)
  intro k hk
  have h0 := gLen hG
  have e1 : ((gFeed h W S).1 544 k).toInt = W k := by
    rw [gFeed_g hG hr hW hS (by decide) (by decide) (by omega)]
    unfold gfv
    rw [if_pos rfl, if_pos hk]
  have e2 : ((gFeed h W S).1 546 k).toInt = (fdN (gfn h) W k : Int) := by
    rw [gFeed_g hG hr hW hS (by decide) (by decide) (by omega)]
    unfold gfv
    rw [if_neg (by decide), if_neg (by decide), if_pos rfl, if_pos (by omega)]
  have e3 : ((gFeed h W S).1 546 (k + 1)).toInt = (fdN (gfn h) W (k + 1) : Int) := by
    rw [gFeed_g hG hr hW hS (by decide) (by decide) (by omega)]
    unfold gfv
    rw [if_neg (by decide), if_neg (by decide), if_pos rfl, if_pos (by omega)]
  have hn := fdN_le (n := gfn h) (W := W) k
  have en : gfn h ≤ 240 := by unfold gfn; omega
  rw [e1, e2, e3]
  refine ⟨fun w0 => ?_, fun w0 => ?_⟩
  · rw [show fdN (gfn h) W (k + 1) = fdN (gfn h) W k from if_pos w0]
  · rw [show fdN (gfn h) W (k + 1) = fdN (gfn h) W k + 1 from if_neg w0]
    have et : ((fdN (gfn h) W k : Nat) : Int).toNat = fdN (gfn h) W k := by omega
    refine ⟨by omega, by omega, ?_⟩
    rw [et, gFeed_g hG hr hW hS (by decide) (by decide) (by omega)]
    unfold gfv
    rw [if_neg (by decide), if_neg (by decide), if_neg (by decide)]
    exact fdT_at hk w0
end GFV
theorem gb544 {g : zH} (hG : sG pReg pG g) (k : Nat) (hk : k ≤ 99999) : (0 : Int) ≤ (g.1 544 k).toInt ∧ (g.1 544 k).toInt ≤ 255 := hG 544 (0, 99999, 0, 255) (by decide +kernel) k (Nat.zero_le _) hk
theorem gb545 {g : zH} (hG : sG pReg pG g) (k : Nat) (hk : k ≤ 99999) : (0 : Int) ≤ (g.1 545 k).toInt ∧ (g.1 545 k).toInt ≤ 1 := hG 545 (0, 99999, 0, 1) (by decide +kernel) k (Nat.zero_le _) hk
theorem gb546 {g : zH} (hG : sG pReg pG g) (k : Nat) (hk : k ≤ 99999) : (0 : Int) ≤ (g.1 546 k).toInt ∧ (g.1 546 k).toInt ≤ 260 := hG 546 (0, 99999, 0, 260) (by decide +kernel) k (Nat.zero_le _) hk
theorem gb547 {g : zH} (hG : sG pReg pG g) (k : Nat) (hk : k ≤ 99999) : (0 : Int) ≤ (g.1 547 k).toInt ∧ (g.1 547 k).toInt ≤ 255 := hG 547 (0, 99999, 0, 255) (by decide +kernel) k (Nat.zero_le _) hk
noncomputable def fdE (g : zH) (a b c d e : Int32) : Prop := (a.toInt = 16777216 * (g.1 544 0).toInt + 65536 * (g.1 544 1).toInt + 256 * (g.1 544 2).toInt + (g.1 544 3).toInt - 4294967296 * (g.1 545 0).toInt) ∧ (b.toInt = 16777216 * (g.1 544 4).toInt + 65536 * (g.1 544 5).toInt + 256 * (g.1 544 6).toInt + (g.1 544 7).toInt - 4294967296 * (g.1 545 1).toInt) ∧ (c.toInt = 16777216 * (g.1 544 8).toInt + 65536 * (g.1 544 9).toInt + 256 * (g.1 544 10).toInt + (g.1 544 11).toInt - 4294967296 * (g.1 545 2).toInt) ∧ (d.toInt = 16777216 * (g.1 544 12).toInt + 65536 * (g.1 544 13).toInt + 256 * (g.1 544 14).toInt + (g.1 544 15).toInt - 4294967296 * (g.1 545 3).toInt) ∧ (e.toInt = 16777216 * (g.1 544 16).toInt + 65536 * (g.1 544 17).toInt + 256 * (g.1 544 18).toInt + (g.1 544 19).toInt - 4294967296 * (g.1 545 4).toInt)
set_option maxHeartbeats 1000000 in
theorem fdC {g h' : zH} {a b c d e x : Int32} {m q : Nat} (z : Nat) (hz : z < 240) (hG : sG pReg pG g) (h21 : pgv 21 g = 1) (w : fdE g a b c d e) (l0 : (g.1 546 0).toInt = (g.1 353 1).toInt) (lb : 0 ≤ (g.1 353 1).toInt ∧ (g.1 353 1).toInt ≤ 240) (tz : (z : Int) < (g.1 353 1).toInt → (g.1 352 z).toInt = (g.1 547 z).toInt) (hrun : yrun m q 52 [.inr (.inr 406), .inl a, .inl b, .inl c, .inl d, .inl e] g = some (some (.inl x), h')) : sG pReg pG h' ∧ sF pReg [(41, 1, 1), (40, 0, 239)] g h' ∧ ((x.toInt = -1 ∧ (h'.1 353 1).toInt = (g.1 353 1).toInt ∧ 241 ≤ (g.1 546 20).toInt ∧ ((z : Int) < (g.1 353 1).toInt → (h'.1 352 z).toInt = (g.1 547 z).toInt)) ∨ (x.toInt = (g.1 546 20).toInt ∧ (h'.1 353 1).toInt = (g.1 546 20).toInt ∧ (g.1 546 20).toInt ≤ 240 ∧ (g.1 353 1).toInt ≤ (g.1 546 20).toInt ∧ ((z : Int) < (g.1 546 20).toInt → (h'.1 352 z).toInt = (g.1 547 z).toInt))) := by
  have ez : ((0 + (1 * (z : Int) + 0) : Int)).toNat = z := by omega
  obtain ⟨w0, w1, w2, w3, w4⟩ := w
  have t21 : (1 : Int) ≤ pgv 21 g ∧ pgv 21 g ≤ 1 := by rw [h21]; exact ⟨Int.le_refl _, Int.le_refl _⟩
  have ha := si32 a
  have hb := si32 b
  have hc := si32 c
  have hd := si32 d
  have he := si32 e
  have u0 := gb544 hG 0 (by decide)
  have u1 := gb544 hG 1 (by decide)
  have u2 := gb544 hG 2 (by decide)
  have u3 := gb544 hG 3 (by decide)
  have u4 := gb544 hG 4 (by decide)
  have u5 := gb544 hG 5 (by decide)
  have u6 := gb544 hG 6 (by decide)
  have u7 := gb544 hG 7 (by decide)
  have u8 := gb544 hG 8 (by decide)
  have u9 := gb544 hG 9 (by decide)
  have u10 := gb544 hG 10 (by decide)
  have u11 := gb544 hG 11 (by decide)
  have u12 := gb544 hG 12 (by decide)
  have u13 := gb544 hG 13 (by decide)
  have u14 := gb544 hG 14 (by decide)
  have u15 := gb544 hG 15 (by decide)
  have u16 := gb544 hG 16 (by decide)
  have u17 := gb544 hG 17 (by decide)
  have u18 := gb544 hG 18 (by decide)
  have u19 := gb544 hG 19 (by decide)
  have s0 := gb545 hG 0 (by decide)
  have s1 := gb545 hG 1 (by decide)
  have s2 := gb545 hG 2 (by decide)
  have s3 := gb545 hG 3 (by decide)
  have s4 := gb545 hG 4 (by decide)
  have n0 := gb546 hG 0 (by decide)
  have n4 := gb546 hG 4 (by decide)
  have n8 := gb546 hG 8 (by decide)
  have n12 := gb546 hG 12 (by decide)
  have n16 := gb546 hG 16 (by decide)
  have n20 := gb546 hG 20 (by decide)
  have tb := gb547 hG z (by omega)
  by_cases hc' : (z : Int) < (g.1 353 1).toInt
  · have tz := tz hc'
    obtain ⟨g1, g2, c1⟩ := pe_cFeedA (z : Int) hG ⟨by omega, by omega⟩ t21 ha hb hc hd he u0 u1 u2 u3 s0 u4 u5 u6 u7 s1 u8 u9 u10 u11 s2 u12 u13 u14 u15 s3 u16 u17 u18 u19 s4 n0 n4 n8 n12 n16 n20 lb (by rw [ez]; exact tb) (by rw [ez, tz]; exact tb) (by omega) (by omega) (by omega) (by omega) (by omega) (by omega) (by omega) (by omega) (by omega) (by omega) (by omega) (by omega) (by omega) (by rw [ez, tz]; omega) (by rw [ez, tz]; omega) hrun
    rw [ez] at c1
    refine ⟨g1, g2, ?_⟩
    rcases c1 with ⟨c1, c2, c3, c4⟩ | ⟨c1, c2, c3, c4, c5⟩
    · exact Or.inl ⟨by omega, by omega, by omega, fun _ => by omega⟩
    · exact Or.inr ⟨by omega, by omega, by omega, by omega, fun _ => by omega⟩
  · obtain ⟨g1, g2, c1⟩ := pe_cFeedB (z : Int) hG ⟨by omega, by omega⟩ t21 ha hb hc hd he u0 u1 u2 u3 s0 u4 u5 u6 u7 s1 u8 u9 u10 u11 s2 u12 u13 u14 u15 s3 u16 u17 u18 u19 s4 n0 n4 n8 n12 n16 n20 lb (by rw [ez]; exact tb) (by omega) (by omega) (by omega) (by omega) (by omega) (by omega) (by omega) (by omega) (by omega) (by omega) (by omega) (by omega) (by omega) hrun
    rw [ez] at c1
    refine ⟨g1, g2, ?_⟩
    rcases c1 with ⟨c1, c2, c3⟩ | ⟨c1, c2, c3, c4, c5, c6⟩ | ⟨c1, c2, c3, c4, c5⟩
    · exact Or.inl ⟨by omega, by omega, by omega, fun q => absurd q hc'⟩
    · exact Or.inr ⟨by omega, by omega, by omega, by omega, fun _ => by omega⟩
    · exact Or.inr ⟨by omega, by omega, by omega, by omega, fun q => by omega⟩
set_option maxHeartbeats 1000000 in
theorem fdM {g h' : zH} {a b c d e x : Int32} {m q : Nat} (z : Nat) (hz : z < 240) (hG : sG pReg pG g) (h21 : pgv 21 g = 1) (w : fdE g a b c d e) (l0 : (g.1 546 0).toInt = (g.1 440 2).toInt) (lb : 0 ≤ (g.1 440 2).toInt ∧ (g.1 440 2).toInt ≤ 240) (tz : (z : Int) < (g.1 440 2).toInt → (g.1 407 z).toInt = (g.1 547 z).toInt) (hrun : yrun m q 122 [.inr (.inr 440), .inl a, .inl b, .inl c, .inl d, .inl e] g = some (some (.inl x), h')) : sG pReg pG h' ∧ sF pReg [(120, 2, 2), (87, 0, 239)] g h' ∧ ((x.toInt = -1 ∧ (h'.1 440 2).toInt = (g.1 440 2).toInt ∧ 241 ≤ (g.1 546 20).toInt ∧ ((z : Int) < (g.1 440 2).toInt → (h'.1 407 z).toInt = (g.1 547 z).toInt)) ∨ (x.toInt = (g.1 546 20).toInt ∧ (h'.1 440 2).toInt = (g.1 546 20).toInt ∧ (g.1 546 20).toInt ≤ 240 ∧ (g.1 440 2).toInt ≤ (g.1 546 20).toInt ∧ ((z : Int) < (g.1 546 20).toInt → (h'.1 407 z).toInt = (g.1 547 z).toInt))) := by
  have ez : ((0 + (1 * (z : Int) + 0) : Int)).toNat = z := by omega
  obtain ⟨w0, w1, w2, w3, w4⟩ := w
  have t21 : (1 : Int) ≤ pgv 21 g ∧ pgv 21 g ≤ 1 := by rw [h21]; exact ⟨Int.le_refl _, Int.le_refl _⟩
  have ha := si32 a
  have hb := si32 b
  have hc := si32 c
  have hd := si32 d
  have he := si32 e
  have u0 := gb544 hG 0 (by decide)
  have u1 := gb544 hG 1 (by decide)
  have u2 := gb544 hG 2 (by decide)
  have u3 := gb544 hG 3 (by decide)
  have u4 := gb544 hG 4 (by decide)
  have u5 := gb544 hG 5 (by decide)
  have u6 := gb544 hG 6 (by decide)
  have u7 := gb544 hG 7 (by decide)
  have u8 := gb544 hG 8 (by decide)
  have u9 := gb544 hG 9 (by decide)
  have u10 := gb544 hG 10 (by decide)
  have u11 := gb544 hG 11 (by decide)
  have u12 := gb544 hG 12 (by decide)
  have u13 := gb544 hG 13 (by decide)
  have u14 := gb544 hG 14 (by decide)
  have u15 := gb544 hG 15 (by decide)
  have u16 := gb544 hG 16 (by decide)
  have u17 := gb544 hG 17 (by decide)
  have u18 := gb544 hG 18 (by decide)
  have u19 := gb544 hG 19 (by decide)
  have s0 := gb545 hG 0 (by decide)
  have s1 := gb545 hG 1 (by decide)
  have s2 := gb545 hG 2 (by decide)
  have s3 := gb545 hG 3 (by decide)
  have s4 := gb545 hG 4 (by decide)
  have n0 := gb546 hG 0 (by decide)
  have n4 := gb546 hG 4 (by decide)
  have n8 := gb546 hG 8 (by decide)
  have n12 := gb546 hG 12 (by decide)
  have n16 := gb546 hG 16 (by decide)
  have n20 := gb546 hG 20 (by decide)
  have tb := gb547 hG z (by omega)
  by_cases hc' : (z : Int) < (g.1 440 2).toInt
  · have tz := tz hc'
    obtain ⟨g1, g2, c1⟩ := pe_mFeedA (z : Int) hG ⟨by omega, by omega⟩ t21 ha hb hc hd he u0 u1 u2 u3 s0 u4 u5 u6 u7 s1 u8 u9 u10 u11 s2 u12 u13 u14 u15 s3 u16 u17 u18 u19 s4 n0 n20 lb (by rw [ez]; exact tb) (by rw [ez, tz]; exact tb) (by omega) (by omega) (by omega) (by omega) (by omega) (by omega) (by omega) (by omega) (by omega) (by omega) (by omega) (by omega) (by omega) (by rw [ez, tz]; omega) (by rw [ez, tz]; omega) hrun
    rw [ez] at c1
    refine ⟨g1, g2, ?_⟩
    rcases c1 with ⟨c1, c2, c3, c4⟩ | ⟨c1, c2, c3, c4, c5⟩
    · exact Or.inl ⟨by omega, by omega, by omega, fun _ => by omega⟩
    · exact Or.inr ⟨by omega, by omega, by omega, by omega, fun _ => by omega⟩
  · obtain ⟨g1, g2, c1⟩ := pe_mFeedB (z : Int) hG ⟨by omega, by omega⟩ t21 ha hb hc hd he u0 u1 u2 u3 s0 u4 u5 u6 u7 s1 u8 u9 u10 u11 s2 u12 u13 u14 u15 s3 u16 u17 u18 u19 s4 n0 n20 lb (by rw [ez]; exact tb) (by omega) (by omega) (by omega) (by omega) (by omega) (by omega) (by omega) (by omega) (by omega) (by omega) (by omega) (by omega) (by omega) hrun
    rw [ez] at c1
    refine ⟨g1, g2, ?_⟩
    rcases c1 with ⟨c1, c2, c3⟩ | ⟨c1, c2, c3, c4, c5, c6⟩ | ⟨c1, c2, c3, c4, c5⟩
    · exact Or.inl ⟨by omega, by omega, by omega, fun q => absurd q hc'⟩
    · exact Or.inr ⟨by omega, by omega, by omega, by omega, fun _ => by omega⟩
    · exact Or.inr ⟨by omega, by omega, by omega, by omega, fun q => by omega⟩
theorem fdE_m {g g' : zH} (e4 : ∀ i : Nat, g'.1 544 i = g.1 544 i) (e5 : ∀ i : Nat, g'.1 545 i = g.1 545 i) (w : fdE g a b c d e) : fdE g' a b c d e := by
  unfold fdE
  rw [e4 0, e4 1, e4 2, e4 3, e4 4, e4 5, e4 6, e4 7, e4 8, e4 9, e4 10, e4 11, e4 12, e4 13, e4 14, e4 15, e4 16, e4 17, e4 18, e4 19, e5 0, e5 1, e5 2, e5 3, e5 4]
  exact w
theorem pr_feedF (hI : yInv h) (hr : r0 h) (a b c d e : Int32) : pRunF [(41, 1, 1), (40, 0, 239)] [(120, 2, 2), (87, 0, 239)] r0 (fun x y => x = y) 52 122 [.inl a, .inl b, .inl c, .inl d, .inl e] h := by
  obtain ⟨W, eW⟩ : ∃ W : Nat → Int, W = fdW a b c d e := ⟨_, rfl⟩
  obtain ⟨S, eS⟩ : ∃ S : Nat → Int, S = fun i => fdS (fdA a b c d e i) := ⟨_, rfl⟩
  have hW : ∀ k, 0 ≤ W k ∧ W k ≤ 255 := fun k => by rw [eW]; exact fdW_b a b c d e k
  have hS : ∀ k, 0 ≤ S k ∧ S k ≤ 1 := fun k => by rw [eS]; exact fdS_b _
  have hI' : yInv (gFeed h W S) := gFeed_inv hI
  have gG := gFeed_p hI.1 hr hW hS
  have g21 := gFeed_d hI.1 hr hW hS
  have l1 := gLen hI.1
  have v4 : ∀ k : Nat, k < 20 → ((gFeed h W S).1 544 k).toInt = W k := fun k hk => by
    rw [gFeed_g hI.1 hr hW hS (by decide) (by decide) (by omega)]
    unfold gfv
    rw [if_pos rfl, if_pos hk]
  have v5 : ∀ k : Nat, k < 5 → ((gFeed h W S).1 545 k).toInt = S k := fun k hk => by
    rw [gFeed_g hI.1 hr hW hS (by decide) (by decide) (by omega)]
    unfold gfv
    rw [if_neg (by decide), if_pos rfl, if_pos hk]
  have v6 : ∀ k : Nat, k ≤ 20 → ((gFeed h W S).1 546 k).toInt = (fdN (gfn h) W k : Int) := fun k hk => by
    rw [gFeed_g hI.1 hr hW hS (by decide) (by decide) (by omega)]
    unfold gfv
    rw [if_neg (by decide), if_neg (by decide), if_pos rfl, if_pos hk]
  have v7 : ∀ k : Nat, k < 260 → ((gFeed h W S).1 547 k).toInt = fdT (gfn h) (gfo h) W 20 k := fun k hk => by
    rw [gFeed_g hI.1 hr hW hS (by decide) (by decide) (by omega)]
    unfold gfv
    rw [if_neg (by decide), if_neg (by decide), if_neg (by decide)]
  have wE : fdE (gFeed h W S) a b c d e := by
    unfold fdE
    rw [v4 0 (by decide), v4 1 (by decide), v4 2 (by decide), v4 3 (by decide), v4 4 (by decide), v4 5 (by decide), v4 6 (by decide), v4 7 (by decide), v4 8 (by decide), v4 9 (by decide), v4 10 (by decide), v4 11 (by decide), v4 12 (by decide), v4 13 (by decide), v4 14 (by decide), v4 15 (by decide), v4 16 (by decide), v4 17 (by decide), v4 18 (by decide), v4 19 (by decide), v5 0 (by decide), v5 1 (by decide), v5 2 (by decide), v5 3 (by decide), v5 4 (by decide)]
    rw [eW, eS]
    exact ⟨fdB_e a, fdB_e b, fdB_e c, fdB_e d, fdB_e e⟩
  have o1 : (gFeed h W S).1 353 1 = h.1 353 1 := gFeed_o (Or.inl (by decide)) 1
  have o2 : (gFeed h W S).1 440 2 = h.1 440 2 := gFeed_o (Or.inl (by decide)) 2
  have o3 : ∀ i : Nat, (gFeed h W S).1 352 i = h.1 352 i := gFeed_o (Or.inl (by decide))
  have o4 : ∀ i : Nat, (gFeed h W S).1 407 i = h.1 407 i := gFeed_o (Or.inl (by decide))
  have o5 : (gFeed h W S).1 374 4 = h.1 374 4 := gFeed_o (Or.inl (by decide)) 4
  have o6 : (gFeed h W S).1 440 13 = h.1 440 13 := gFeed_o (Or.inl (by decide)) 13
  have en : (gfn h : Int) = (h.1 353 1).toInt := by unfold gfn; omega
  have e00 : fdN (gfn h) W 0 = gfn h := rfl
  have old : ∀ i : Nat, (i : Int) < (h.1 353 1).toInt → fdT (gfn h) (gfo h) W 20 i = (h.1 352 i).toInt := fun i hi => fdT_old (by omega)
  obtain ⟨n1, x, h1, e1, i1, -, -⟩ := yP_X11_feed hI' a b c d e
  obtain ⟨n2, y, h2, e2, i2, -, -⟩ := yP_X12_feed i1 a b c d e
  have A := fun (z : Nat) (hz : z < 240) => fdC z hz gG g21 wE (by rw [v6 0 (by decide), e00, o1]; exact en) (by rw [o1]; exact l1) (fun q => by rw [o1] at q; rw [o3, v7 z (by omega), old z q]) e1
  obtain ⟨g1, f1, -⟩ := A 0 (by decide)
  have w4 : ∀ i : Nat, h1.1 544 i = (gFeed h W S).1 544 i := pfq f1 544 (by decide +kernel)
  have w5 : ∀ i : Nat, h1.1 545 i = (gFeed h W S).1 545 i := pfq f1 545 (by decide +kernel)
  have w6 : ∀ i : Nat, h1.1 546 i = (gFeed h W S).1 546 i := pfq f1 546 (by decide +kernel)
  have w7 : ∀ i : Nat, h1.1 547 i = (gFeed h W S).1 547 i := pfq f1 547 (by decide +kernel)
  have w8 : ∀ i : Nat, h1.1 407 i = h.1 407 i := fun i => (pfq f1 407 (by decide +kernel) i).trans (o4 i)
  have w9 : h1.1 440 2 = h.1 440 2 := (pfr f1 440 2 (by decide +kernel)).trans o2
  have wA : h1.1 440 13 = h.1 440 13 := (pfr f1 440 13 (by decide +kernel)).trans o6
  have wB : h1.1 374 4 = h.1 374 4 := (pfr f1 374 4 (by decide +kernel)).trans o5
  have B := fun (z : Nat) (hz : z < 240) => fdM z hz g1 ((pgf f1 (by decide +kernel)).trans g21) (fdE_m w4 w5 wE) (by rw [w6, v6 0 (by decide), e00, w9, ← hr.1]; exact en) (by rw [w9, ← hr.1]; exact l1) (fun q => by rw [w9, ← hr.1] at q; rw [w8, w7, v7 z (by omega), old z q, (hr.2.2 z q).1]) e2
  obtain ⟨g2, f2, -⟩ := B 0 (by decide)
  have x3 : h2.1 353 1 = h1.1 353 1 := pfr f2 353 1 (by decide +kernel)
  have x4 : h2.1 374 4 = h.1 374 4 := (pfr f2 374 4 (by decide +kernel)).trans wB
  have x5 : h2.1 440 13 = h.1 440 13 := (pfr f2 440 13 (by decide +kernel)).trans wA
  have x6 : ∀ i : Nat, h2.1 352 i = h1.1 352 i := pfq f2 352 (by decide +kernel)
  have N20 := v6 20 (by decide)
  have C : ∀ z : Nat, z < 240 → (x.toInt = y.toInt ∧ (h2.1 353 1).toInt = (h2.1 440 2).toInt ∧ (h2.1 353 1).toInt ≤ 240 ∧ ((z : Int) < (h2.1 353 1).toInt → (h2.1 352 z).toInt = fdT (gfn h) (gfo h) W 20 z ∧ (h2.1 407 z).toInt = fdT (gfn h) (gfo h) W 20 z ∧ z < fdN (gfn h) W 20)) := by
    intro z hz
    obtain ⟨-, -, c1⟩ := A z hz
    obtain ⟨-, -, c2⟩ := B z hz
    rw [w6, w7, w9, ← hr.1] at c2
    rw [o1] at c1
    rw [v7 z (by omega)] at c1 c2
    rw [N20] at c1 c2
    rw [x3, x6]
    have hl := fdN_le (n := gfn h) (W := W) 20
    rcases c1 with ⟨a1, a2, a3, a4⟩ | ⟨a1, a2, a3, a4, a5⟩ <;> rcases c2 with ⟨b1, b2, b3, b4⟩ | ⟨b1, b2, b3, b4, b5⟩
    · exact ⟨by omega, by omega, by omega, fun q => ⟨a4 (by omega), b4 (by omega), by omega⟩⟩
    · exfalso
      omega
    · exfalso
      omega
    · exact ⟨by omega, by omega, by omega, fun q => ⟨a5 (by omega), b5 (by omega), by omega⟩⟩
  have C0 := C 0 (by decide)
  have c240 := C0.2.2.1
  refine ⟨gFeed h W S, n1, x, h1, n2, y, h2, fun k hk => ⟨funext (fun i => gFeed_o (Or.inl (by omega)) i), rfl⟩, hI', e1, i1, e2, i2, f1, f2, ⟨Int32.toInt_inj.mp C0.2.1, ?_, ?_⟩, Int32.toInt_inj.mp C0.1⟩
  · rw [x4, x5]
    exact hr.2.1
  · intro i hi
    obtain ⟨c1, c2, c3, c4⟩ := C i (by omega)
    obtain ⟨d1, d2, d3⟩ := c4 hi
    have p1 := fdT_p (n := gfn h) (o := gfo h) (W := W) (fun j hj => (hr.2.2 j (by omega)).2.1) hW 20 d3
    have p2 := fdT_b (n := gfn h) (o := gfo h) (W := W) (fun j hj => by
      have := (hr.2.2 j (by omega)).2
      unfold gfo
      omega) hW i 20
    exact ⟨Int32.toInt_inj.mp (d1.trans d2.symm), by omega, by omega⟩
theorem pr_feed (hI : yInv h) (hr : r0 h) (a b c d e : Int32) : pRun r0 (fun x y => x = y) 52 122 [.inl a, .inl b, .inl c, .inl d, .inl e] h := pRunF_r (pr_feedF hI hr a b c d e)
end GFEED
