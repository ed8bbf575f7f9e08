/-! the engine Q: 80.b.qops -/
section SOPS
variable {reg : Nat → Nat} {gv : Nat → Int → Int → zH → Prop} {ρ ρ0 : Nat → Int} {S T : sS} {loc : zL} {stk : List zV} {h : zH} {e : sE}
theorem sfi_okQ (hf : sfi S = some (e, T)) (hM : sMtQ reg gv ρ ρ0 S loc stk h) (z : Int32) : ∃ ρ', sMtQ reg gv ρ' ρ0 T loc stk h ∧ z.toInt = sv ρ' e ∧ T.2.1 = S.2.1 := by
  obtain ⟨ρ', a, b, -, -, c, -⟩ := sfr_okQ hf hM (si32 z).1 (si32 z).2
  exact ⟨ρ', a, b.symm, c⟩
theorem sfl_okQ (hf : sfl S = some (e, T)) (hM : sMtQ reg gv ρ ρ0 S loc stk h) (z : Int64) : ∃ ρ', sMtQ reg gv ρ' ρ0 T loc stk h ∧ z.toInt = sv ρ' e ∧ T.2.1 = S.2.1 := by
  obtain ⟨ρ', a, b, -, -, c, -⟩ := sfr_okQ hf hM (si64 z).1 (si64 z).2
  exact ⟨ρ', a, b.symm, c⟩
theorem swr_okQ {e0 : sE} (hf : swr S e0 = some (e, T)) (hM : sMtQ reg gv ρ ρ0 S loc stk h) (z : Int32) (hz : -2147483648 ≤ sv ρ e0 → sv ρ e0 ≤ 2147483647 → z.toInt = sv ρ e0) : ∃ ρ', sMtQ reg gv ρ' ρ0 T loc stk h ∧ z.toInt = sv ρ' e ∧ T.2.1 = S.2.1 := by
  unfold swr at hf
  split at hf
  case isTrue q =>
    cases hf
    rw [Bool.and_eq_true] at q
    have h1 := spr_leQ hM q.1
    have h2 := spr_leQ hM q.2
    rw [sac_v] at h1
    rw [sac_v, sng_v] at h2
    exact ⟨ρ, hM, hz (by omega) (by omega), rfl⟩
  case isFalse => exact sfi_okQ hf hM z
theorem srg_okQ {e0 : sE} {lo hi : Int} (hf : srg S e0 lo hi = some (e, T)) (hM : sMtQ reg gv ρ ρ0 S loc stk h) (z : Int32) (hz : lo ≤ sv ρ e0 → sv ρ e0 ≤ hi → z.toInt = sv ρ e0) : ∃ ρ', sMtQ reg gv ρ' ρ0 T loc stk h ∧ z.toInt = sv ρ' e ∧ T.2.1 = S.2.1 := by
  unfold srg at hf
  split at hf
  case isTrue q =>
    cases hf
    rw [Bool.and_eq_true] at q
    have h1 := spr_leQ hM q.1
    have h2 := spr_leQ hM q.2
    rw [sac_v] at h1
    rw [sac_v, sng_v] at h2
    exact ⟨ρ, hM, hz (by omega) (by omega), rfl⟩
  case isFalse => exact sfi_okQ hf hM z
theorem swl_okQ {e0 : sE} (hf : swl S e0 = some (e, T)) (hM : sMtQ reg gv ρ ρ0 S loc stk h) (z : Int64) (hz : -9223372036854775808 ≤ sv ρ e0 → sv ρ e0 ≤ 9223372036854775807 → z.toInt = sv ρ e0) : ∃ ρ', sMtQ reg gv ρ' ρ0 T loc stk h ∧ z.toInt = sv ρ' e ∧ T.2.1 = S.2.1 := by
  unfold swl at hf
  split at hf
  case isTrue q =>
    cases hf
    rw [Bool.and_eq_true] at q
    have h1 := spr_leQ hM q.1
    have h2 := spr_leQ hM q.2
    rw [sac_v] at h1
    rw [sac_v, sng_v] at h2
    exact ⟨ρ, hM, hz (by omega) (by omega), rfl⟩
  case isFalse => exact sfl_okQ hf hM z
theorem snz_okQ (hM : sMtQ reg gv ρ ρ0 S loc stk h) {y : sE} (hn : snz S y = true) : sv ρ y ≠ 0 := by
  unfold snz at hn
  rcases Bool.or_eq_true_iff.mp hn with q | q
  · have := spr_leQ hM q
    rw [sac_v, sng_v] at this
    omega
  · have := spr_leQ hM q
    rw [sac_v] at this
    omega
theorem sdv_okQ {x y : sE} {lo hi z : Int} (hf : sdv S x y lo hi = some (e, T)) (hM : sMtQ reg gv ρ ρ0 S loc stk h) (h1 : lo ≤ z) (h2 : z ≤ hi) (hz : 0 ≤ sv ρ x → 1 ≤ sv ρ y → z = sv ρ x / sv ρ y) : ∃ ρ', sMtQ reg gv ρ' ρ0 T loc stk h ∧ z = sv ρ' e ∧ T.2.1 = S.2.1 := by
  have full : ∀ {e T}, sfr lo hi S [] = some (e, T) → ∃ ρ', sMtQ reg gv ρ' ρ0 T loc stk h ∧ z = sv ρ' e ∧ T.2.1 = S.2.1 := fun hf => by
    obtain ⟨ρ', a, b, -, -, c, -⟩ := sfr_okQ hf hM h1 h2
    exact ⟨ρ', a, b.symm, c⟩
  unfold sdv at hf
  split at hf
  case isFalse => exact full hf
  case isTrue q =>
    rw [Bool.and_eq_true] at q
    have p1 := spr_leQ hM q.1
    have p2 := spr_leQ hM q.2
    rw [sac_v, sng_v] at p1
    rw [sng_v] at p2
    have hz := hz (by omega) (by omega)
    cases hc : sCo y with
    | none => rw [hc] at hf; exact full hf
    | some c =>
      cases hu : sUb S.2.2.2.1 x with
      | none => rw [hc, hu] at hf; exact full hf
      | some u =>
        rw [hc, hu] at hf
        have hc := sCo_v (ρ := ρ) hc
        have hu := sUb_le hM.2.2.2.1 hu
        have b1 : 0 ≤ z := by rw [hz]; exact Int.ediv_nonneg (by omega) (by omega)
        have b2 : z ≤ u / c := by rw [hz, hc]; exact Int.ediv_le_ediv (by omega) hu
        obtain ⟨ρ', a, b, -, -, c, -⟩ := sfr_okQ hf hM b1 b2
        exact ⟨ρ', a, b.symm, c⟩
theorem srm_okQ {x y : sE} {lo hi z : Int} (hf : srm S x y lo hi = some (e, T)) (hM : sMtQ reg gv ρ ρ0 S loc stk h) (h1 : lo ≤ z) (h2 : z ≤ hi) (hz : 0 ≤ sv ρ x → 1 ≤ sv ρ y → z = sv ρ x % sv ρ y) : ∃ ρ', sMtQ reg gv ρ' ρ0 T loc stk h ∧ z = sv ρ' e ∧ T.2.1 = S.2.1 := by
  have full : ∀ {e T}, sfr lo hi S [] = some (e, T) → ∃ ρ', sMtQ reg gv ρ' ρ0 T loc stk h ∧ z = sv ρ' e ∧ T.2.1 = S.2.1 := fun hf => by
    obtain ⟨ρ', a, b, -, -, c, -⟩ := sfr_okQ hf hM h1 h2
    exact ⟨ρ', a, b.symm, c⟩
  unfold srm at hf
  split at hf
  case isFalse => exact full hf
  case isTrue q =>
    rw [Bool.and_eq_true] at q
    have p1 := spr_leQ hM q.1
    have p2 := spr_leQ hM q.2
    rw [sac_v, sng_v] at p1
    rw [sng_v] at p2
    have hz := hz (by omega) (by omega)
    split at hf
    case isTrue q3 =>
      cases hf
      have p3 := spr_leQ hM q3
      rw [sac_v, sadd_v] at p3
      refine ⟨ρ, hM, ?_, rfl⟩
      rw [hz]
      exact Int.emod_eq_of_lt (by omega) (by omega)
    case isFalse =>
      cases hu : sUb S.2.2.2.1 y with
      | none => rw [hu] at hf; exact full hf
      | some u =>
        rw [hu] at hf
        simp only at hf
        cases hr : sfr 0 (u - 1) S [y] with
        | none => rw [hr] at hf; cases hf
        | some q =>
          obtain ⟨r, T1⟩ := q
          rw [hr] at hf
          cases hf
          have hu := sUb_le hM.2.2.2.1 hu
          have b1 : 0 ≤ z := by rw [hz]; exact Int.emod_nonneg _ (by omega)
          have b2 : z < sv ρ y := by rw [hz]; exact Int.emod_lt_of_pos _ (by omega)
          obtain ⟨ρ', a, b, hy, -, c, -⟩ := sfr_okQ hr hM b1 (by omega)
          have hy := hy y (List.mem_singleton.mpr rfl)
          refine ⟨ρ', ?_, b.symm, c⟩
          obtain ⟨m1, m2, m3, m4, m5, m6⟩ := a
          refine ⟨m1, m2, m3, m4, ?_, m6⟩
          intro c hc
          rcases List.mem_cons.mp hc with rfl | hc
          · rw [sac_v, sadd_v, b, hy]
            omega
          · exact m5 c hc
end SOPS
/-- where a step goes -/
noncomputable def sgoQ (reg : Nat → Nat) (gv : Nat → Int → Int → zH → Prop) (ρ0 : Nat → Int) (L : List (Nat × sS)) (q : zN) : Prop := ∃ z ∈ L, ∃ ρ', q.1 = z.1 ∧ sMtQ reg gv ρ' ρ0 z.2 q.2.1 q.2.2.1 q.2.2.2
section S1OK
variable {reg : Nat → Nat} {gv : Nat → Int → Int → zH → Prop} {ρ ρ0 : Nat → Int} {S T : sS} {loc : zL} {stk : List zV} {h : zH} {e : sE}
theorem sMt_stkQ {stk' : List zV} {st' : List sV} (hM : sMtQ reg gv ρ ρ0 S loc stk h) (hs : sms reg ρ stk' st') : sMtQ reg gv ρ ρ0 (S.1, st', S.2.2) loc stk' h := ⟨hM.1, hs, hM.2.2⟩
theorem spu_goQ {z : Int32} {k n : Nat} {L : List (Nat × sS)} {o : Option (sE × sS)} (hL : spu k n o = some L) (ho : ∀ e T, o = some (e, T) → ∃ ρ', sMtQ reg gv ρ' ρ0 T loc stk h ∧ z.toInt = sv ρ' e) : sgoQ reg gv ρ0 L (n, loc, .inl z :: stk.drop k, h) := by
  match o, hL, ho with
  | some (e, T), hL, ho =>
    cases hL
    obtain ⟨ρ', hM, hz⟩ := ho e T rfl
    exact ⟨_, List.mem_singleton.mpr rfl, ρ', rfl, sMt_stkQ hM ⟨hz, sms_drop k hM.2.1⟩⟩
theorem spl_goQ {z : Int64} {k n : Nat} {L : List (Nat × sS)} {o : Option (sE × sS)} (hL : spl k n o = some L) (ho : ∀ e T, o = some (e, T) → ∃ ρ', sMtQ reg gv ρ' ρ0 T loc stk h ∧ z.toInt = sv ρ' e) : sgoQ reg gv ρ0 L (n, loc, .inr (.inl z) :: stk.drop k, h) := by
  match o, hL, ho with
  | some (e, T), hL, ho =>
    cases hL
    obtain ⟨ρ', hM, hz⟩ := ho e T rfl
    exact ⟨_, List.mem_singleton.mpr rfl, ρ', rfl, sMt_stkQ hM ⟨hz, sms_drop k hM.2.1⟩⟩
theorem sCv_vQ (hM : sMtQ reg gv ρ ρ0 S loc stk h) {e : sE} {c : Int} (hc : sCv S e = some c) : sv ρ e = c := by
  unfold sCv at hc
  cases ha : sLb S.2.2.2.1 e with
  | none => rw [ha] at hc; cases hc
  | some a =>
    cases hb : sUb S.2.2.2.1 e with
    | none => rw [ha, hb] at hc; cases hc
    | some b =>
      rw [ha, hb] at hc
      simp only at hc
      split at hc
      case isFalse => cases hc
      case isTrue q =>
        have hc := Option.some.inj hc
        have h1 := sLb_le hM.2.2.2.1 ha
        have h2 := sUb_le hM.2.2.2.1 hb
        omega
theorem sfo_vQ {f : Int32 → Int32 → Int32} {x y : Int32} {ex ey : sE} (hM : sMtQ reg gv ρ ρ0 S loc stk h) (hx : x.toInt = sv ρ ex) (hy : y.toInt = sv ρ ey) (ho : sfo f S ex ey = some (e, T)) : ∃ ρ', sMtQ reg gv ρ' ρ0 T loc stk h ∧ (f x y).toInt = sv ρ' e ∧ T.2.1 = S.2.1 := by
  unfold sfo at ho
  cases hc : sCv S ex with
  | none => rw [hc] at ho; exact sfi_okQ ho hM _
  | some a =>
    cases hd : sCv S ey with
    | none => rw [hc, hd] at ho; exact sfi_okQ ho hM _
    | some b =>
      rw [hc, hd] at ho
      cases ho
      have h1 := sCv_vQ hM hc
      have h2 := sCv_vQ hM hd
      have ex : x = Int32.ofInt a := by rw [← h1, ← hx, Int32.ofInt_toInt]
      have ey : y = Int32.ofInt b := by rw [← h2, ← hy, Int32.ofInt_toInt]
      refine ⟨ρ, hM, ?_, rfl⟩
      rw [sK_v, ex, ey]
theorem so2_okQ {i : Instr} {pc : Nat} {x y : Int32} {r : List zV} {ex ey : sE} {L : List (Nat × sS)} (hM : sMtQ reg gv ρ ρ0 S loc (.inl y :: .inl x :: r) h) (hx : x.toInt = sv ρ ex) (hy : y.toInt = sv ρ ey) (hL : spu 2 (pc + 1) (so2 i S ex ey) = some L) : ∃ q, zf1 i pc loc (.inl y :: .inl x :: r) h = some q ∧ q.2.2.2 = h ∧ sgoQ reg gv ρ0 L q := by
  cases i
  case iadd => exact ⟨_, rfl, rfl, spu_goQ hL (fun e T ho => sk2 (α := Nat) (swr_okQ ho hM (x + y) (fun h1 h2 => by rw [sadd_v] at h1 h2 ⊢; rw [sadd32 _ _ (by omega) (by omega)]; omega)))⟩
  case isub => exact ⟨_, rfl, rfl, spu_goQ hL (fun e T ho => sk2 (α := Nat) (swr_okQ ho hM (x - y) (fun h1 h2 => by rw [sadd_v] at h1 h2 ⊢; rw [ssub32 _ _ (by omega) (by omega)]; omega)))⟩
  case imul =>
    refine ⟨_, rfl, rfl, spu_goQ (stk := .inl y :: .inl x :: r) hL (fun e T ho => sk2 (α := Nat) (?_ : ∃ ρ', _ ∧ (x * y).toInt = _ ∧ T.2.1 = S.2.1))⟩
    simp only [so2] at ho
    cases hc : sCv S ey with
    | some c =>
      rw [hc] at ho
      have hc := sCv_vQ hM hc
      exact swr_okQ ho hM (x * y) (fun h1 h2 => by
        rw [sadd_v, sK_v] at h1 h2 ⊢
        have e1 : x.toInt * y.toInt = c * sv ρ ex := by rw [hx, hy, hc, Int.mul_comm]
        rw [smul32 _ _ (by omega) (by omega)]
        omega)
    | none =>
      rw [hc] at ho
      simp only at ho
      cases hc2 : sCv S ex with
      | some c =>
        rw [hc2] at ho
        have hc2 := sCv_vQ hM hc2
        exact swr_okQ ho hM (x * y) (fun h1 h2 => by
          rw [sadd_v, sK_v] at h1 h2 ⊢
          have e1 : x.toInt * y.toInt = c * sv ρ ey := by rw [hx, hy, hc2]
          rw [smul32 _ _ (by omega) (by omega)]
          omega)
      | none =>
        rw [hc2] at ho
        exact sfi_okQ ho hM _
  case iand =>
    refine ⟨_, rfl, rfl, spu_goQ (stk := .inl y :: .inl x :: r) hL (fun e T ho => sk2 (α := Nat) (?_ : ∃ ρ', _ ∧ (x &&& y).toInt = _ ∧ T.2.1 = S.2.1))⟩
    simp only [so2] at ho
    split at ho
    case h_1 c hcx hcy =>
      have hc := sCv_vQ hM hcy
      split at ho
      · have := sand32 x y (by omega)
        obtain ⟨ρ', a, b, -, -, c2, -⟩ := sfr_okQ ho hM this.1 (show _ ≤ c by omega)
        exact ⟨ρ', a, b.symm, c2⟩
      · exact sfi_okQ ho hM _
    case h_2 => exact sfo_vQ hM hx hy ho
  case ior => exact ⟨_, rfl, rfl, spu_goQ (stk := .inl y :: .inl x :: r) hL (fun e T ho => sk2 (α := Nat) (sfo_vQ hM hx hy ho))⟩
  case ixor => exact ⟨_, rfl, rfl, spu_goQ (stk := .inl y :: .inl x :: r) hL (fun e T ho => sk2 (α := Nat) (sfo_vQ hM hx hy ho))⟩
  case ishl => exact ⟨_, rfl, rfl, spu_goQ (stk := .inl y :: .inl x :: r) hL (fun e T ho => sk2 (α := Nat) (sfo_vQ (f := fun a b => a <<< (b &&& 31)) hM hx hy ho))⟩
  case iushr => exact ⟨_, rfl, rfl, spu_goQ (stk := .inl y :: .inl x :: r) hL (fun e T ho => sk2 (α := Nat) (sfo_vQ (f := zush) hM hx hy ho))⟩
  case ishr =>
    refine ⟨_, rfl, rfl, spu_goQ (stk := .inl y :: .inl x :: r) hL (fun e T ho => sk2 (α := Nat) (?_ : ∃ ρ', _ ∧ (x >>> (y &&& 31)).toInt = _ ∧ T.2.1 = S.2.1))⟩
    simp only [so2] at ho
    split at ho
    case isTrue q =>
      cases ho
      have q := sCv_vQ hM q
      have e0 : y = 0 := Int32.toInt_inj.mp (by rw [hy, q]; rfl)
      have e1 : x >>> (y &&& 31) = x := by rw [e0, sshr0]
      rw [e1]
      exact ⟨ρ, hM, hx, rfl⟩
    case isFalse => exact sfo_vQ (f := fun a b => a >>> (b &&& 31)) hM hx hy ho
  case idiv =>
    simp only [so2] at hL
    by_cases hn : snz S ey = true
    · rw [if_pos hn] at hL
      have hnz := snz_okQ hM hn
      rw [← hy] at hnz
      refine ⟨(pc + 1, loc, .inl (x / y) :: r, h), ?_, rfl, spu_goQ hL (fun e T ho => sk2 (α := Nat) (sdv_okQ ho hM (si32 (x / y)).1 (si32 (x / y)).2 (fun h1 h2 => by rw [sdiv32 x y (by omega) (by omega), hx, hy])))⟩
      simp only [zf1, zo2, zgd]
      rw [if_pos (decide_eq_true (sn0 hnz))]
    · rw [if_neg hn] at hL; cases hL
  case irem =>
    simp only [so2] at hL
    by_cases hn : snz S ey = true
    · rw [if_pos hn] at hL
      have hnz := snz_okQ hM hn
      rw [← hy] at hnz
      refine ⟨(pc + 1, loc, .inl (x - x / y * y) :: r, h), ?_, rfl, spu_goQ hL (fun e T ho => sk2 (α := Nat) (srm_okQ ho hM (si32 (x - x / y * y)).1 (si32 (x - x / y * y)).2 (fun h1 h2 => by rw [srem32 x y (by omega) (by omega), hx, hy])))⟩
      simp only [zf1, zo2, zgd]
      rw [if_pos (decide_eq_true (sn0 hnz))]
    · rw [if_neg hn] at hL; cases hL
  all_goals cases hL
theorem so2L_okQ {i : Instr} {pc : Nat} {x y : Int64} {r : List zV} {ex ey : sE} {L : List (Nat × sS)} (hM : sMtQ reg gv ρ ρ0 S loc (.inr (.inl y) :: .inr (.inl x) :: r) h) (hx : x.toInt = sv ρ ex) (hy : y.toInt = sv ρ ey) (hL : spl 2 (pc + 1) (so2L i S ex ey) = some L) : ∃ q, zf1 i pc loc (.inr (.inl y) :: .inr (.inl x) :: r) h = some q ∧ q.2.2.2 = h ∧ sgoQ reg gv ρ0 L q := by
  cases i
  case ladd => exact ⟨_, rfl, rfl, spl_goQ hL (fun e T ho => sk2 (α := Nat) (swl_okQ ho hM (x + y) (fun h1 h2 => by rw [sadd_v] at h1 h2 ⊢; rw [sadd64 _ _ (by omega) (by omega)]; omega)))⟩
  case lsub => exact ⟨_, rfl, rfl, spl_goQ hL (fun e T ho => sk2 (α := Nat) (swl_okQ ho hM (x - y) (fun h1 h2 => by rw [sadd_v] at h1 h2 ⊢; rw [ssub64 _ _ (by omega) (by omega)]; omega)))⟩
  case lmul => exact ⟨_, rfl, rfl, spl_goQ hL (fun e T ho => sk2 (α := Nat) (sfl_okQ ho hM _))⟩
  case land => exact ⟨_, rfl, rfl, spl_goQ hL (fun e T ho => sk2 (α := Nat) (sfl_okQ ho hM _))⟩
  case lor => exact ⟨_, rfl, rfl, spl_goQ hL (fun e T ho => sk2 (α := Nat) (sfl_okQ ho hM _))⟩
  all_goals cases hL
end S1OK
section S1OK2
variable {reg : Nat → Nat} {gv : Nat → Int → Int → zH → Prop} {ρ ρ0 : Nat → Int} {S T : sS} {loc : zL} {stk : List zV} {h : zH} {e : sE}
theorem sgl_okQ {k : Nat} {s : sV} (hM : sMtQ reg gv ρ ρ0 S loc stk h) (e : sgl S k = some s) : ∃ v, zget loc k = some v ∧ sm reg ρ v s := by
  unfold sgl at e
  cases hf : S.1.find? (fun p => p.1 == k) with
  | none => rw [hf] at e; cases e
  | some p =>
    rw [hf] at e
    cases e
    have h1 : p.1 = k := by have := List.find?_some hf; simpa using this
    obtain ⟨v, e1, e2⟩ := hM.1 p (List.mem_of_find?_eq_some hf)
    rw [h1] at e1
    exact ⟨v, e1, e2⟩
theorem sbr_okQ {c : ClassFile.Cond} {d : sE} {t n : Nat} (hM : sMtQ reg gv ρ ρ0 S loc stk h) : (scT c (sv ρ d) → sgoQ reg gv ρ0 (sbr S c d t n) (t, loc, stk, h)) ∧ (¬ scT c (sv ρ d) → sgoQ reg gv ρ0 (sbr S c d t n) (n, loc, stk, h)) := by
  constructor
  · intro hc
    obtain ⟨S', e1, e2, -⟩ := scnd_okQ c hM hc
    refine ⟨(t, S'), ?_, ρ, rfl, e2⟩
    unfold sbr
    rw [e1]
    exact List.mem_append_left _ (List.mem_singleton.mpr rfl)
  · intro hc
    obtain ⟨S', e1, e2, -⟩ := scnd_okQ (scn c) hM (scn_ok hc)
    refine ⟨(n, S'), ?_, ρ, rfl, e2⟩
    unfold sbr
    rw [e1]
    exact List.mem_append_right _ (List.mem_singleton.mpr rfl)
theorem sli_okQ {k n : Nat} {L : List (Nat × sS)} (hM : sMtQ reg gv ρ ρ0 S loc stk h) (hL : sli S k n = some L) : ∃ q, zog loc k (fun v => zgd (zbI v) (some (n, loc, v :: stk, h))) = some q ∧ q.2.2.2 = h ∧ sgoQ reg gv ρ0 L q := by
  unfold sli at hL
  cases hg : sgl S k with
  | none => rw [hg] at hL; cases hL
  | some s =>
    obtain ⟨v, e1, e2⟩ := sgl_okQ hM hg
    match s, v, e2, hg with
    | .inl e, .inl x, e2, hg =>
      rw [hg] at hL
      cases hL
      refine ⟨(n, loc, .inl x :: stk, h), ?_, rfl, _, List.mem_singleton.mpr rfl, ρ, rfl, sMt_stkQ hM ⟨e2, hM.2.1⟩⟩
      unfold zog
      rw [e1]
      rfl
    | .inr (.inl e), _, _, hg => rw [hg] at hL; cases hL
    | .inr (.inr e), _, _, hg => rw [hg] at hL; cases hL
theorem sll_okQ {k n : Nat} {L : List (Nat × sS)} (hM : sMtQ reg gv ρ ρ0 S loc stk h) (hL : sll S k n = some L) : ∃ q, zog loc k (fun v => zgd (zbL v) (some (n, loc, v :: stk, h))) = some q ∧ q.2.2.2 = h ∧ sgoQ reg gv ρ0 L q := by
  unfold sll at hL
  cases hg : sgl S k with
  | none => rw [hg] at hL; cases hL
  | some s =>
    obtain ⟨v, e1, e2⟩ := sgl_okQ hM hg
    match s, v, e2, hg with
    | .inr (.inl e), .inr (.inl x), e2, hg =>
      rw [hg] at hL
      cases hL
      refine ⟨(n, loc, .inr (.inl x) :: stk, h), ?_, rfl, _, List.mem_singleton.mpr rfl, ρ, rfl, sMt_stkQ hM ⟨e2, hM.2.1⟩⟩
      unfold zog
      rw [e1]
      rfl
    | .inl e, _, _, hg => rw [hg] at hL; cases hL
    | .inr (.inr e), _, _, hg => rw [hg] at hL; cases hL
theorem slr_okQ {k n : Nat} {L : List (Nat × sS)} (hM : sMtQ reg gv ρ ρ0 S loc stk h) (hL : slr S k n = some L) : ∃ q, zog loc k (fun v => zgd (zbR v) (some (n, loc, v :: stk, h))) = some q ∧ q.2.2.2 = h ∧ sgoQ reg gv ρ0 L q := by
  unfold slr at hL
  cases hg : sgl S k with
  | none => rw [hg] at hL; cases hL
  | some s =>
    obtain ⟨v, e1, e2⟩ := sgl_okQ hM hg
    match s, v, e2, hg with
    | .inr (.inr e), .inr (.inr x), e2, hg =>
      rw [hg] at hL
      cases hL
      refine ⟨(n, loc, .inr (.inr x) :: stk, h), ?_, rfl, _, List.mem_singleton.mpr rfl, ρ, rfl, sMt_stkQ hM ⟨e2, hM.2.1⟩⟩
      unfold zog
      rw [e1]
      rfl
    | .inl e, _, _, hg => rw [hg] at hL; cases hL
    | .inr (.inl e), _, _, hg => rw [hg] at hL; cases hL
theorem ssi_okQ {k n : Nat} {L : List (Nat × sS)} (hM : sMtQ reg gv ρ ρ0 S loc stk h) (hL : ssi S k n = some L) : ∃ q, zo1 stk (fun x r => some (n, zput1 loc k (.inl x), r, h)) = some q ∧ q.2.2.2 = h ∧ sgoQ reg gv ρ0 L q := by
  unfold ssi at hL
  have hs := hM.2.1
  match hst : S.2.1, hL, hs with
  | .inl e :: r, hL, hs =>
    cases hL
    obtain ⟨x, r', rfl, e1, e2⟩ := sms_i hs
    exact ⟨_, rfl, rfl, _, List.mem_singleton.mpr rfl, ρ, rfl, spt1_ok hM.1 e1, e2, hM.2.2⟩
theorem ssr_okQ {k n : Nat} {L : List (Nat × sS)} (hM : sMtQ reg gv ρ ρ0 S loc stk h) (hL : ssr S k n = some L) : ∃ q, zoR1 stk (fun x r => some (n, zput1 loc k (.inr (.inr x)), r, h)) = some q ∧ q.2.2.2 = h ∧ sgoQ reg gv ρ0 L q := by
  unfold ssr at hL
  have hs := hM.2.1
  match hst : S.2.1, hL, hs with
  | .inr (.inr e) :: r, hL, hs =>
    cases hL
    obtain ⟨x, r', rfl, e1, e2⟩ := sms_r hs
    exact ⟨_, rfl, rfl, _, List.mem_singleton.mpr rfl, ρ, rfl, spt1_ok hM.1 e1, e2, hM.2.2⟩
theorem ssl_okQ {k n : Nat} {L : List (Nat × sS)} (hM : sMtQ reg gv ρ ρ0 S loc stk h) (hL : ssl S k n = some L) : ∃ q, zoL1 stk (fun x r => some (n, zput2 loc k (.inr (.inl x)), r, h)) = some q ∧ q.2.2.2 = h ∧ sgoQ reg gv ρ0 L q := by
  unfold ssl at hL
  have hs := hM.2.1
  match hst : S.2.1, hL, hs with
  | .inr (.inl e) :: r, hL, hs =>
    cases hL
    obtain ⟨x, r', rfl, e1, e2⟩ := sms_l hs
    exact ⟨_, rfl, rfl, _, List.mem_singleton.mpr rfl, ρ, rfl, spt2_ok hM.1 e1, e2, hM.2.2⟩
theorem sbin_okQ {i : Instr} {pc : Nat} {L : List (Nat × sS)} (hM : sMtQ reg gv ρ ρ0 S loc stk h) (hL : (match S.2.1 with
    | .inl y :: .inl x :: _ => spu 2 (pc + 1) (so2 i S x y)
    | .inr (.inl y) :: .inr (.inl x) :: _ => spl 2 (pc + 1) (so2L i S x y)
    | _ => none) = some L) : ∃ q, zf1 i pc loc stk h = some q ∧ q.2.2.2 = h ∧ sgoQ reg gv ρ0 L q := by
  have hs := hM.2.1
  match hst : S.2.1, hL, hs with
  | .inl y :: .inl x :: r, hL, hs =>
    obtain ⟨y', r1, rfl, e1, e2⟩ := sms_i hs
    obtain ⟨x', r2, rfl, e3, e4⟩ := sms_i e2
    exact so2_okQ hM e3 e1 hL
  | .inr (.inl y) :: .inr (.inl x) :: r, hL, hs =>
    obtain ⟨y', r1, rfl, e1, e2⟩ := sms_l hs
    obtain ⟨x', r2, rfl, e3, e4⟩ := sms_l e2
    exact so2L_okQ hM e3 e1 hL
set_option maxHeartbeats 2000000 in
theorem s1_okQ {i : Instr} {pc : Nat} {L : List (Nat × sS)} (hM : sMtQ reg gv ρ ρ0 S loc stk h) (hL : s1 i pc S = some L) : ∃ q, zf1 i pc loc stk h = some q ∧ q.2.2.2 = h ∧ sgoQ reg gv ρ0 L q := by
  have hs := hM.2.1
  cases i
  case iconst n =>
    simp only [s1] at hL
    split at hL
    case isFalse => cases hL
    case isTrue q =>
      cases hL
      exact ⟨_, rfl, rfl, _, List.mem_singleton.mpr rfl, ρ, rfl, sMt_stkQ hM ⟨by show (Int32.ofInt n).toInt = _; rw [sK_v]; exact so32 q.1 q.2, hs⟩⟩
  case bipush n =>
    simp only [s1] at hL
    split at hL
    case isFalse => cases hL
    case isTrue q =>
      cases hL
      exact ⟨_, rfl, rfl, _, List.mem_singleton.mpr rfl, ρ, rfl, sMt_stkQ hM ⟨by show ((Int8.ofInt n).toInt32).toInt = _; rw [sK_v]; exact so8 q.1 q.2, hs⟩⟩
  case sipush n =>
    simp only [s1] at hL
    split at hL
    case isFalse => cases hL
    case isTrue q =>
      cases hL
      exact ⟨_, rfl, rfl, _, List.mem_singleton.mpr rfl, ρ, rfl, sMt_stkQ hM ⟨by show ((Int16.ofInt n).toInt32).toInt = _; rw [sK_v]; exact so16 q.1 q.2, hs⟩⟩
  case lconst n =>
    simp only [s1] at hL
    split at hL
    case isFalse => cases hL
    case isTrue q =>
      cases hL
      refine ⟨_, rfl, rfl, _, List.mem_singleton.mpr rfl, ρ, rfl, sMt_stkQ hM ⟨?_, hs⟩⟩
      show (Int64.ofNat n.val).toInt = _
      rw [sK_v]
      have : n.val = 0 ∨ n.val = 1 := by omega
      rcases this with q | q <;> rw [q] <;> rfl
  case iload_n k => exact sli_okQ hM hL
  case iload k => exact sli_okQ hM hL
  case lload_n k => exact sll_okQ hM hL
  case lload k => exact sll_okQ hM hL
  case aload_n k => exact slr_okQ hM hL
  case aload k => exact slr_okQ hM hL
  case istore_n k => exact ssi_okQ hM hL
  case istore k => exact ssi_okQ hM hL
  case lstore_n k => exact ssl_okQ hM hL
  case lstore k => exact ssl_okQ hM hL
  case astore_n k => exact ssr_okQ hM hL
  case astore k => exact ssr_okQ hM hL
  case ineg =>
    simp only [s1] at hL
    match hst : S.2.1, hL, hs with
    | .inl x :: r, hL, hs =>
      obtain ⟨x', r1, rfl, e1, e2⟩ := sms_i hs
      exact ⟨_, rfl, rfl, spu_goQ (stk := .inl x' :: r1) hL (fun e T ho => sk2 (α := Nat) (swr_okQ ho hM (-x') (fun h1 h2 => by rw [sng_v] at h1 h2 ⊢; rw [sneg32 _ (by omega) (by omega)]; omega)))⟩
  case i2l =>
    simp only [s1] at hL
    match hst : S.2.1, hL, hs with
    | .inl x :: r, hL, hs =>
      obtain ⟨x', r1, rfl, e1, e2⟩ := sms_i hs
      cases hL
      exact ⟨_, rfl, rfl, _, List.mem_singleton.mpr rfl, ρ, rfl, sMt_stkQ hM ⟨by show (x'.toInt64).toInt = _; rw [Int32.toInt_toInt64]; exact e1, e2⟩⟩
  case l2i =>
    simp only [s1] at hL
    match hst : S.2.1, hL, hs with
    | .inr (.inl x) :: r, hL, hs =>
      obtain ⟨x', r1, rfl, e1, e2⟩ := sms_l hs
      exact ⟨_, rfl, rfl, spu_goQ (stk := .inr (.inl x') :: r1) hL (fun e T ho => sk2 (α := Nat) (swr_okQ ho hM (x'.toInt32) (fun h1 h2 => by rw [Int64.toInt_toInt32, e1]; exact sw32 h1 h2)))⟩
  case i2c =>
    simp only [s1] at hL
    match hst : S.2.1, hL, hs with
    | .inl x :: r, hL, hs =>
      obtain ⟨x', r1, rfl, e1, e2⟩ := sms_i hs
      exact ⟨_, rfl, rfl, spu_goQ (stk := .inl x' :: r1) hL (fun e T ho => sk2 (α := Nat) (srg_okQ ho hM _ (fun h1 h2 => by rw [← e1]; exact si2c x' (by omega) (by omega))))⟩
  case dup =>
    simp only [s1] at hL
    match hst : S.2.1, stk, hL, hs with
    | v :: r, w :: r1, hL, hs =>
      simp only at hL
      split at hL
      case isTrue => cases hL
      case isFalse q =>
        cases hL
        have hc := (sm_cat hs.1).2.mp (by simpa using q)
        refine ⟨(pc + 1, loc, w :: w :: r1, h), ?_, rfl, _, List.mem_singleton.mpr rfl, ρ, rfl, sMt_stkQ hM ⟨hs.1, hs.1, hs.2⟩⟩
        simp only [zf1, zgd, hc]
        rfl
  case pop =>
    simp only [s1] at hL
    match hst : S.2.1, stk, hL, hs with
    | v :: r, w :: r1, hL, hs =>
      simp only at hL
      split at hL
      case isTrue => cases hL
      case isFalse q =>
        cases hL
        have hc := (sm_cat hs.1).2.mp (by simpa using q)
        refine ⟨(pc + 1, loc, r1, h), ?_, rfl, _, List.mem_singleton.mpr rfl, ρ, rfl, sMt_stkQ hM hs.2⟩
        simp only [zf1, zgd, hc]
        rfl
  case dup2 =>
    simp only [s1] at hL
    match hst : S.2.1, stk, hL, hs with
    | v :: v2 :: r, w :: w2 :: r1, hL, hs =>
      simp only at hL
      split at hL
      case isTrue => cases hL
      case isFalse q =>
        cases hL
        simp only [Bool.or_eq_true, not_or, Bool.not_eq_true] at q
        have hc := (sm_cat hs.1).2.mp q.1
        have hc2 := (sm_cat hs.2.1).2.mp q.2
        refine ⟨(pc + 1, loc, w :: w2 :: w :: w2 :: r1, h), ?_, rfl, _, List.mem_singleton.mpr rfl, ρ, rfl, sMt_stkQ hM ⟨hs.1, hs.2.1, hs.1, hs.2.1, hs.2.2⟩⟩
        simp only [zf1, zgd, hc, hc2]
        rfl
  case goto off =>
    simp only [s1] at hL
    split at hL
    case isFalse => cases hL
    case isTrue q =>
      cases hL
      refine ⟨(ztgt pc off, loc, stk, h), ?_, rfl, _, List.mem_singleton.mpr rfl, ρ, rfl, hM⟩
      simp only [zf1, zj]
      rw [if_pos q]
  case ifCond c off =>
    simp only [s1] at hL
    match hst : S.2.1, hL, hs with
    | .inl x :: r, hL, hs =>
      simp only at hL
      split at hL
      case isFalse => cases hL
      case isTrue q =>
        cases hL
        obtain ⟨x', r1, rfl, e1, e2⟩ := sms_i hs
        have hM2 : sMtQ reg gv ρ ρ0 (S.1, r, S.2.2) loc r1 h := sMt_stkQ hM e2
        have hb := sbr_okQ (c := c) (d := x) (t := ztgt pc off) (n := pc + 3) hM2
        by_cases hk : zk1 c x' = true
        · refine ⟨(ztgt pc off, loc, r1, h), ?_, rfl, hb.1 (by rw [← e1]; exact zk1_T.mp hk)⟩
          simp only [zf1, zo1, zgd]
          rw [if_pos (decide_eq_true q), if_pos hk]
        · refine ⟨(pc + 3, loc, r1, h), ?_, rfl, hb.2 (by rw [← e1]; exact fun q => hk (zk1_T.mpr q))⟩
          simp only [zf1, zo1, zgd]
          rw [if_pos (decide_eq_true q), if_neg hk]
  case if_icmp c off =>
    simp only [s1] at hL
    match hst : S.2.1, hL, hs with
    | .inl y :: .inl x :: r, hL, hs =>
      simp only at hL
      split at hL
      case isFalse => cases hL
      case isTrue q =>
        cases hL
        obtain ⟨y', r1, rfl, e1, e2⟩ := sms_i hs
        obtain ⟨x', r2, rfl, e3, e4⟩ := sms_i e2
        have hM2 : sMtQ reg gv ρ ρ0 (S.1, r, S.2.2) loc r2 h := sMt_stkQ hM e4
        have hb := sbr_okQ (c := c) (d := sadd x y (-1)) (t := ztgt pc off) (n := pc + 3) hM2
        have he : sv ρ (sadd x y (-1)) = x'.toInt - y'.toInt := by rw [sadd_v, e1, e3]; omega
        rw [he] at hb
        by_cases hk : zk2 c x' y' = true
        · refine ⟨(ztgt pc off, loc, r2, h), ?_, rfl, hb.1 (zk2_T.mp hk)⟩
          simp only [zf1, zo2, zgd]
          rw [if_pos (decide_eq_true q), if_pos hk]
        · refine ⟨(pc + 3, loc, r2, h), ?_, rfl, hb.2 (fun q => hk (zk2_T.mpr q))⟩
          simp only [zf1, zo2, zgd]
          rw [if_pos (decide_eq_true q), if_neg hk]
  case iinc k n =>
    simp only [s1] at hL
    cases hg : sgl S k with
    | none => rw [hg] at hL; cases hL
    | some s =>
      obtain ⟨v, e1, e2⟩ := sgl_okQ hM hg
      match s, v, e2, hg, e1 with
      | .inl e, .inl x, e2, hg, e1 =>
        rw [hg] at hL
        simp only at hL
        split at hL
        case isFalse => cases hL
        case isTrue q =>
          cases hw : swr S (sac e n) with
          | none => rw [hw] at hL; cases hL
          | some z =>
            obtain ⟨v, T⟩ := z
            rw [hw] at hL
            cases hL
            have e2 : x.toInt = sv ρ e := e2
            obtain ⟨ρ', hM', hv, -⟩ := swr_okQ hw hM (x + Int32.ofInt n) (fun h1 h2 => by rw [sac_v] at h1 h2 ⊢; rw [sadd32 _ _ (by rw [so32 q.1 q.2]; omega) (by rw [so32 q.1 q.2]; omega), so32 q.1 q.2]; omega)
            refine ⟨(pc + 3, zput1 loc k (.inl (x + Int32.ofInt n)), stk, h), ?_, rfl, _, List.mem_singleton.mpr rfl, ρ', rfl, spt1_ok hM'.1 hv, hM'.2⟩
            simp only [zf1, e1]
      | .inr (.inl e), _, _, hg, _ => rw [hg] at hL; cases hL
      | .inr (.inr e), _, _, hg, _ => rw [hg] at hL; cases hL
  all_goals exact sbin_okQ hM hL
end S1OK2
