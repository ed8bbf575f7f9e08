/-! values: what an operation gives -/
theorem sw32 {z : Int} (h1 : -2147483648 ≤ z) (h2 : z ≤ 2147483647) : z.bmod (2 ^ 32) = z := by
  simp only [Int.bmod]
  omega
theorem sw64 {z : Int} (h1 : -9223372036854775808 ≤ z) (h2 : z ≤ 9223372036854775807) : z.bmod (2 ^ 64) = z := by
  simp only [Int.bmod]
  omega
theorem si32 (x : Int32) : -2147483648 ≤ x.toInt ∧ x.toInt ≤ 2147483647 := by
  have h1 := Int32.le_toInt x
  have h2 := Int32.toInt_lt x
  simp at h1 h2
  omega
theorem si64 (x : Int64) : -9223372036854775808 ≤ x.toInt ∧ x.toInt ≤ 9223372036854775807 := by
  have h1 := Int64.le_toInt x
  have h2 := Int64.toInt_lt x
  simp at h1 h2
  omega
theorem so32 {n : Int} (h1 : -2147483648 ≤ n) (h2 : n ≤ 2147483647) : (Int32.ofInt n).toInt = n := by
  rw [Int32.toInt_ofInt]
  exact sw32 h1 h2
theorem so8 {n : Int} (h1 : -128 ≤ n) (h2 : n ≤ 127) : ((Int8.ofInt n).toInt32).toInt = n := by
  rw [Int8.toInt_toInt32, Int8.toInt_ofInt]
  show n.bmod 256 = n
  simp only [Int.bmod]
  omega
theorem so16 {n : Int} (h1 : -32768 ≤ n) (h2 : n ≤ 32767) : ((Int16.ofInt n).toInt32).toInt = n := by
  rw [Int16.toInt_toInt32, Int16.toInt_ofInt]
  show n.bmod 65536 = n
  simp only [Int.bmod]
  omega
theorem sadd32 (x y : Int32) (h1 : -2147483648 ≤ x.toInt + y.toInt) (h2 : x.toInt + y.toInt ≤ 2147483647) : (x + y).toInt = x.toInt + y.toInt := by
  rw [Int32.toInt_add]; exact sw32 h1 h2
theorem ssub32 (x y : Int32) (h1 : -2147483648 ≤ x.toInt - y.toInt) (h2 : x.toInt - y.toInt ≤ 2147483647) : (x - y).toInt = x.toInt - y.toInt := by
  rw [Int32.toInt_sub]; exact sw32 h1 h2
theorem smul32 (x y : Int32) (h1 : -2147483648 ≤ x.toInt * y.toInt) (h2 : x.toInt * y.toInt ≤ 2147483647) : (x * y).toInt = x.toInt * y.toInt := by
  rw [Int32.toInt_mul]; exact sw32 h1 h2
theorem sneg32 (x : Int32) (h1 : -2147483648 ≤ -x.toInt) (h2 : -x.toInt ≤ 2147483647) : (-x).toInt = -x.toInt := by
  rw [Int32.toInt_neg]; exact sw32 h1 h2
theorem sadd64 (x y : Int64) (h1 : -9223372036854775808 ≤ x.toInt + y.toInt) (h2 : x.toInt + y.toInt ≤ 9223372036854775807) : (x + y).toInt = x.toInt + y.toInt := by
  rw [Int64.toInt_add]; exact sw64 h1 h2
theorem ssub64 (x y : Int64) (h1 : -9223372036854775808 ≤ x.toInt - y.toInt) (h2 : x.toInt - y.toInt ≤ 9223372036854775807) : (x - y).toInt = x.toInt - y.toInt := by
  rw [Int64.toInt_sub]; exact sw64 h1 h2
theorem smul64 (x y : Int64) (h1 : -9223372036854775808 ≤ x.toInt * y.toInt) (h2 : x.toInt * y.toInt ≤ 9223372036854775807) : (x * y).toInt = x.toInt * y.toInt := by
  rw [Int64.toInt_mul]; exact sw64 h1 h2
theorem stdv {x y : Int} (hx : 0 ≤ x) (hy : 1 ≤ y) : x.tdiv y = x / y := Int.tdiv_eq_ediv_of_nonneg hx
theorem sdivb {x y : Int} (hx : 0 ≤ x) (hy : 1 ≤ y) : 0 ≤ x / y ∧ x / y ≤ x := ⟨Int.ediv_nonneg hx (by omega), Int.ediv_le_self _ hx⟩
theorem sdiv32 (x y : Int32) (hx : 0 ≤ x.toInt) (hy : 1 ≤ y.toInt) : (x / y).toInt = x.toInt / y.toInt := by
  rw [Int32.toInt_div, stdv hx hy]
  have := sdivb hx hy
  have := si32 x
  exact sw32 (by omega) (by omega)
theorem sdiv64 (x y : Int64) (hx : 0 ≤ x.toInt) (hy : 1 ≤ y.toInt) : (x / y).toInt = x.toInt / y.toInt := by
  rw [Int64.toInt_div, stdv hx hy]
  have := sdivb hx hy
  have := si64 x
  exact sw64 (by omega) (by omega)
theorem sremb {x y : Int} (hx : 0 ≤ x) (hy : 1 ≤ y) : 0 ≤ x / y * y ∧ x / y * y ≤ x ∧ x - x / y * y = x % y := by
  have h1 := Int.emod_add_mul_ediv x y
  have h2 := Int.emod_nonneg x (show y ≠ 0 by omega)
  rw [Int.mul_comm] at h1
  have h3 : 0 ≤ x / y * y := Int.mul_nonneg (sdivb hx hy).1 (by omega)
  refine ⟨h3, by omega, by omega⟩
theorem srem32 (x y : Int32) (hx : 0 ≤ x.toInt) (hy : 1 ≤ y.toInt) : (x - x / y * y).toInt = x.toInt % y.toInt := by
  have h0 := si32 x
  obtain ⟨h1, h2, h3⟩ := sremb hx hy
  have e1 : (x / y * y).toInt = x.toInt / y.toInt * y.toInt := by
    rw [smul32 (x / y) y (by rw [sdiv32 x y hx hy]; omega) (by rw [sdiv32 x y hx hy]; omega), sdiv32 x y hx hy]
  rw [ssub32 _ _ (by rw [e1]; omega) (by rw [e1]; omega), e1, h3]
theorem srem64 (x y : Int64) (hx : 0 ≤ x.toInt) (hy : 1 ≤ y.toInt) : (x - x / y * y).toInt = x.toInt % y.toInt := by
  have h0 := si64 x
  obtain ⟨h1, h2, h3⟩ := sremb hx hy
  have e1 : (x / y * y).toInt = x.toInt / y.toInt * y.toInt := by
    rw [smul64 (x / y) y (by rw [sdiv64 x y hx hy]; omega) (by rw [sdiv64 x y hx hy]; omega), sdiv64 x y hx hy]
  rw [ssub64 _ _ (by rw [e1]; omega) (by rw [e1]; omega), e1, h3]
theorem sand32 (x y : Int32) (hy : 0 ≤ y.toInt) : 0 ≤ (x &&& y).toInt ∧ (x &&& y).toInt ≤ y.toInt := by
  have e1 : (x &&& y).toInt = (x.toBitVec &&& y.toBitVec).toInt := rfl
  have e2 : y.toInt = y.toBitVec.toInt := rfl
  rw [e2] at hy ⊢
  rw [e1]
  have h1 : (x.toBitVec &&& y.toBitVec).toNat ≤ y.toBitVec.toNat := by
    rw [BitVec.toNat_and]
    exact Nat.and_le_right
  have h2 := y.toBitVec.isLt
  rw [BitVec.toInt_eq_toNat_cond] at hy ⊢
  rw [BitVec.toInt_eq_toNat_cond]
  split at hy
  · rw [if_pos (by omega), if_pos (by omega)]
    omega
  · omega
theorem sshr33 (x : Int64) : 0 ≤ ((x.toUInt64 >>> ((33 : Int32).toInt64.toUInt64 &&& Int64.toUInt64 63)).toInt64).toInt ∧ ((x.toUInt64 >>> ((33 : Int32).toInt64.toUInt64 &&& Int64.toUInt64 63)).toInt64).toInt ≤ 2147483647 := by
  have e0 : ((33 : Int32).toInt64.toUInt64 &&& Int64.toUInt64 63) = 33 := rfl
  rw [e0]
  have e1 : ((x.toUInt64 >>> 33).toInt64).toInt = (x.toUInt64 >>> 33).toBitVec.toInt := rfl
  have e2 : (x.toUInt64 >>> 33).toBitVec.toNat = x.toUInt64.toNat / 2 ^ 33 := by
    show (x.toUInt64 >>> 33).toNat = _
    rw [UInt64.toNat_shiftRight]
    rw [Nat.shiftRight_eq_div_pow]
    rfl
  have h := x.toUInt64.toNat_lt
  rw [e1, BitVec.toInt_eq_toNat_cond, e2]
  rw [if_pos (by omega)]
  omega
theorem scmp64 (x y : Int64) : (lg_cmp x y).toInt = if x.toInt < y.toInt then -1 else if x.toInt = y.toInt then 0 else 1 := by
  unfold lg_cmp
  by_cases h1 : x > y
  · have := Int64.lt_iff_toInt_lt.mp h1
    rw [if_pos h1, if_neg (by omega), if_neg (by omega)]
    rfl
  · have q : ¬ y.toInt < x.toInt := fun q => h1 (Int64.lt_iff_toInt_lt.mpr q)
    rw [if_neg h1]
    by_cases h2 : x = y
    · subst h2
      rw [if_pos rfl, if_neg (Int.lt_irrefl _), if_pos rfl]
      rfl
    · have : x.toInt ≠ y.toInt := fun q => h2 (Int64.toInt_inj.mp q)
      rw [if_neg h2, if_pos (by omega)]
      rfl
theorem sshr0 (x : Int32) : x >>> ((0 : Int32) &&& 31) = x := by
  have e : ((0 : Int32) &&& 31) = 0 := rfl
  rw [e]
  simp

theorem si2c (x : Int32) (h1 : 0 ≤ x.toInt) (h2 : x.toInt ≤ 65535) : ((x.toUInt32 % 65536).toInt32).toInt = x.toInt := by
  have e1 : ((x.toUInt32 % 65536).toInt32).toInt = (x.toUInt32 % 65536).toBitVec.toInt := rfl
  have e2 : (x.toUInt32 % 65536).toBitVec.toNat = x.toUInt32.toNat % 65536 := by
    show (x.toUInt32 % 65536).toNat = _
    rw [UInt32.toNat_mod]
    rfl
  have e3 : x.toInt = x.toBitVec.toInt := rfl
  have e4 : x.toUInt32.toNat = x.toBitVec.toNat := rfl
  have hl := x.toBitVec.isLt
  rw [e3, BitVec.toInt_eq_toNat_cond] at h1 h2 ⊢
  rw [e1, BitVec.toInt_eq_toNat_cond, e2, e4]
  split at h1
  · rw [if_pos (by omega)] at h2
    rw [if_pos (by omega), if_pos (by omega)]
    omega
  · omega
theorem si2b (x : Int32) (h1 : -128 ≤ x.toInt) (h2 : x.toInt ≤ 127) : (x.toInt8.toInt32).toInt = x.toInt := by
  rw [Int8.toInt_toInt32, Int32.toInt_toInt8]
  simp only [Int.bmod]
  omega
/-! operations on expressions -/
noncomputable def sCo (e : sE) : Option Int := if e.2.isEmpty = true then some e.1 else none
theorem sCo_v {ρ : Nat → Int} {e : sE} {c : Int} (h : sCo e = some c) : sv ρ e = c := by
  unfold sCo at h
  split at h
  case isFalse => cases h
  case isTrue q =>
    have h := Option.some.inj h
    rw [List.isEmpty_iff] at q
    show e.1 + sT ρ e.2 = c
    rw [q, h]
    show c + 0 = c
    omega
noncomputable def sfi (S : sS) : Option (sE × sS) := sfr (-2147483648) 2147483647 S []
noncomputable def sfl (S : sS) : Option (sE × sS) := sfr (-9223372036854775808) 9223372036854775807 S []
noncomputable def swr (S : sS) (e : sE) : Option (sE × sS) := if (spr S (sac e (-2147483647)) && spr S (sac (sng e) (-2147483648))) = true then some (e, S) else sfi S
noncomputable def swl (S : sS) (e : sE) : Option (sE × sS) := if (spr S (sac e (-9223372036854775807)) && spr S (sac (sng e) (-9223372036854775808))) = true then some (e, S) else sfl S
noncomputable def snz (S : sS) (y : sE) : Bool := spr S (sac (sng y) 1) || spr S (sac y 1)
noncomputable def sdv (S : sS) (x y : sE) (lo hi : Int) : Option (sE × sS) := if (spr S (sac (sng y) 1) && spr S (sng x)) = true then (match sCo y, sUb S.2.2.2.1 x with
    | some c, some u => sfr 0 (u / c) S []
    | _, _ => sfr lo hi S []) else sfr lo hi S []
noncomputable def srm (S : sS) (x y : sE) (lo hi : Int) : Option (sE × sS) := if (spr S (sac (sng y) 1) && spr S (sng x)) = true then
    (if spr S (sac (sadd x y (-1)) 1) = true then some (x, S) else match sUb S.2.2.2.1 y with
    | some u => (match sfr 0 (u - 1) S [y] with
      | some (r, T) => some (r, (T.1, T.2.1, T.2.2.1, T.2.2.2.1, sac (sadd r y (-1)) 1 :: T.2.2.2.2.1, T.2.2.2.2.2))
      | none => none)
    | none => sfr lo hi S []) else sfr lo hi S []
noncomputable def srg (S : sS) (e : sE) (lo hi : Int) : Option (sE × sS) := if (spr S (sac e (-hi)) && spr S (sac (sng e) lo)) = true then some (e, S) else sfi S
section SOPS
variable {reg : Nat → Nat} {gv : Nat → zH → Int} {ρ ρ0 : Nat → Int} {S T : sS} {loc : zL} {stk : List zV} {h : zH} {e : sE}
theorem sfi_ok (hf : sfi S = some (e, T)) (hM : sMt reg gv ρ ρ0 S loc stk h) (z : Int32) : ∃ ρ', sMt reg gv ρ' ρ0 T loc stk h ∧ z.toInt = sv ρ' e ∧ T.2.1 = S.2.1 := by
  obtain ⟨ρ', a, b, -, -, c, -⟩ := sfr_ok hf hM (si32 z).1 (si32 z).2
  exact ⟨ρ', a, b.symm, c⟩
theorem sfl_ok (hf : sfl S = some (e, T)) (hM : sMt reg gv ρ ρ0 S loc stk h) (z : Int64) : ∃ ρ', sMt reg gv ρ' ρ0 T loc stk h ∧ z.toInt = sv ρ' e ∧ T.2.1 = S.2.1 := by
  obtain ⟨ρ', a, b, -, -, c, -⟩ := sfr_ok hf hM (si64 z).1 (si64 z).2
  exact ⟨ρ', a, b.symm, c⟩
theorem swr_ok {e0 : sE} (hf : swr S e0 = some (e, T)) (hM : sMt reg gv ρ ρ0 S loc stk h) (z : Int32) (hz : -2147483648 ≤ sv ρ e0 → sv ρ e0 ≤ 2147483647 → z.toInt = sv ρ e0) : ∃ ρ', sMt reg gv ρ' ρ0 T loc stk h ∧ z.toInt = sv ρ' e ∧ T.2.1 = S.2.1 := by
  unfold swr at hf
  split at hf
  case isTrue q =>
    cases hf
    rw [Bool.and_eq_true] at q
    have h1 := spr_le hM q.1
    have h2 := spr_le hM q.2
    rw [sac_v] at h1
    rw [sac_v, sng_v] at h2
    exact ⟨ρ, hM, hz (by omega) (by omega), rfl⟩
  case isFalse => exact sfi_ok hf hM z
theorem srg_ok {e0 : sE} {lo hi : Int} (hf : srg S e0 lo hi = some (e, T)) (hM : sMt reg gv ρ ρ0 S loc stk h) (z : Int32) (hz : lo ≤ sv ρ e0 → sv ρ e0 ≤ hi → z.toInt = sv ρ e0) : ∃ ρ', sMt reg gv ρ' ρ0 T loc stk h ∧ z.toInt = sv ρ' e ∧ T.2.1 = S.2.1 := by
  unfold srg at hf
  split at hf
  case isTrue q =>
    cases hf
    rw [Bool.and_eq_true] at q
    have h1 := spr_le hM q.1
    have h2 := spr_le hM q.2
    rw [sac_v] at h1
    rw [sac_v, sng_v] at h2
    exact ⟨ρ, hM, hz (by omega) (by omega), rfl⟩
  case isFalse => exact sfi_ok hf hM z
theorem swl_ok {e0 : sE} (hf : swl S e0 = some (e, T)) (hM : sMt reg gv ρ ρ0 S loc stk h) (z : Int64) (hz : -9223372036854775808 ≤ sv ρ e0 → sv ρ e0 ≤ 9223372036854775807 → z.toInt = sv ρ e0) : ∃ ρ', sMt reg gv ρ' ρ0 T loc stk h ∧ z.toInt = sv ρ' e ∧ T.2.1 = S.2.1 := by
  unfold swl at hf
  split at hf
  case isTrue q =>
    cases hf
    rw [Bool.and_eq_true] at q
    have h1 := spr_le hM q.1
    have h2 := spr_le hM q.2
    rw [sac_v] at h1
    rw [sac_v, sng_v] at h2
    exact ⟨ρ, hM, hz (by omega) (by omega), rfl⟩
  case isFalse => exact sfl_ok hf hM z
theorem snz_ok (hM : sMt reg gv ρ ρ0 S loc stk h) {y : sE} (hn : snz S y = true) : sv ρ y ≠ 0 := by
  unfold snz at hn
  rcases Bool.or_eq_true_iff.mp hn with q | q
  · have := spr_le hM q
    rw [sac_v, sng_v] at this
    omega
  · have := spr_le hM q
    rw [sac_v] at this
    omega
theorem sdv_ok {x y : sE} {lo hi z : Int} (hf : sdv S x y lo hi = some (e, T)) (hM : sMt reg gv ρ ρ0 S loc stk h) (h1 : lo ≤ z) (h2 : z ≤ hi) (hz : 0 ≤ sv ρ x → 1 ≤ sv ρ y → z = sv ρ x / sv ρ y) : ∃ ρ', sMt reg gv ρ' ρ0 T loc stk h ∧ z = sv ρ' e ∧ T.2.1 = S.2.1 := by
  have full : ∀ {e T}, sfr lo hi S [] = some (e, T) → ∃ ρ', sMt reg gv ρ' ρ0 T loc stk h ∧ z = sv ρ' e ∧ T.2.1 = S.2.1 := fun hf => by
    obtain ⟨ρ', a, b, -, -, c, -⟩ := sfr_ok hf hM h1 h2
    exact ⟨ρ', a, b.symm, c⟩
  unfold sdv at hf
  split at hf
  case isFalse => exact full hf
  case isTrue q =>
    rw [Bool.and_eq_true] at q
    have p1 := spr_le hM q.1
    have p2 := spr_le hM q.2
    rw [sac_v, sng_v] at p1
    rw [sng_v] at p2
    have hz := hz (by omega) (by omega)
    cases hc : sCo y with
    | none => rw [hc] at hf; exact full hf
    | some c =>
      cases hu : sUb S.2.2.2.1 x with
      | none => rw [hc, hu] at hf; exact full hf
      | some u =>
        rw [hc, hu] at hf
        have hc := sCo_v (ρ := ρ) hc
        have hu := sUb_le hM.2.2.2.1 hu
        have b1 : 0 ≤ z := by rw [hz]; exact Int.ediv_nonneg (by omega) (by omega)
        have b2 : z ≤ u / c := by rw [hz, hc]; exact Int.ediv_le_ediv (by omega) hu
        obtain ⟨ρ', a, b, -, -, c, -⟩ := sfr_ok hf hM b1 b2
        exact ⟨ρ', a, b.symm, c⟩
theorem srm_ok {x y : sE} {lo hi z : Int} (hf : srm S x y lo hi = some (e, T)) (hM : sMt reg gv ρ ρ0 S loc stk h) (h1 : lo ≤ z) (h2 : z ≤ hi) (hz : 0 ≤ sv ρ x → 1 ≤ sv ρ y → z = sv ρ x % sv ρ y) : ∃ ρ', sMt reg gv ρ' ρ0 T loc stk h ∧ z = sv ρ' e ∧ T.2.1 = S.2.1 := by
  have full : ∀ {e T}, sfr lo hi S [] = some (e, T) → ∃ ρ', sMt reg gv ρ' ρ0 T loc stk h ∧ z = sv ρ' e ∧ T.2.1 = S.2.1 := fun hf => by
    obtain ⟨ρ', a, b, -, -, c, -⟩ := sfr_ok hf hM h1 h2
    exact ⟨ρ', a, b.symm, c⟩
  unfold srm at hf
  split at hf
  case isFalse => exact full hf
  case isTrue q =>
    rw [Bool.and_eq_true] at q
    have p1 := spr_le hM q.1
    have p2 := spr_le hM q.2
    rw [sac_v, sng_v] at p1
    rw [sng_v] at p2
    have hz := hz (by omega) (by omega)
    split at hf
    case isTrue q3 =>
      cases hf
      have p3 := spr_le hM q3
      rw [sac_v, sadd_v] at p3
      refine ⟨ρ, hM, ?_, rfl⟩
      rw [hz]
      exact Int.emod_eq_of_lt (by omega) (by omega)
    case isFalse =>
      cases hu : sUb S.2.2.2.1 y with
      | none => rw [hu] at hf; exact full hf
      | some u =>
        rw [hu] at hf
        simp only at hf
        cases hr : sfr 0 (u - 1) S [y] with
        | none => rw [hr] at hf; cases hf
        | some q =>
          obtain ⟨r, T1⟩ := q
          rw [hr] at hf
          cases hf
          have hu := sUb_le hM.2.2.2.1 hu
          have b1 : 0 ≤ z := by rw [hz]; exact Int.emod_nonneg _ (by omega)
          have b2 : z < sv ρ y := by rw [hz]; exact Int.emod_lt_of_pos _ (by omega)
          obtain ⟨ρ', a, b, hy, -, c, -⟩ := sfr_ok hr hM b1 (by omega)
          have hy := hy y (List.mem_singleton.mpr rfl)
          refine ⟨ρ', ?_, b.symm, c⟩
          obtain ⟨m1, m2, m3, m4, m5, m6⟩ := a
          refine ⟨m1, m2, m3, m4, ?_, m6⟩
          intro c hc
          rcases List.mem_cons.mp hc with rfl | hc
          · rw [sac_v, sadd_v, b, hy]
            omega
          · exact m5 c hc
end SOPS
