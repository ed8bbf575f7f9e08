/-! a step on expressions: neither places nor methods -/
noncomputable def spu (k n : Nat) (o : Option (sE × sS)) : Option (List (Nat × sS)) := match o with
  | some (e, T) => some [(n, (T.1, .inl e :: T.2.1.drop k, T.2.2))]
  | none => none
noncomputable def spl (k n : Nat) (o : Option (sE × sS)) : Option (List (Nat × sS)) := match o with
  | some (e, T) => some [(n, (T.1, .inr (.inl e) :: T.2.1.drop k, T.2.2))]
  | none => none
/-- where a step goes -/
noncomputable def sgo (reg : Nat → Nat) (gv : Nat → zH → Int) (ρ0 : Nat → Int) (L : List (Nat × sS)) (q : zN) : Prop := ∃ z ∈ L, ∃ ρ', q.1 = z.1 ∧ sMt reg gv ρ' ρ0 z.2 q.2.1 q.2.2.1 q.2.2.2
/-- a constant, by its bounds -/
noncomputable def sCv (S : sS) (e : sE) : Option Int := match sLb S.2.2.2.1 e, sUb S.2.2.2.1 e with
  | some a, some b => if a = b then some a else none
  | _, _ => none
/-- two constants by f, else any int -/
noncomputable def sfo (f : Int32 → Int32 → Int32) (S : sS) (x y : sE) : Option (sE × sS) := match sCv S x, sCv S y with
  | some a, some b => some (sK (f (Int32.ofInt a) (Int32.ofInt b)).toInt, S)
  | _, _ => sfi S
noncomputable def so2 (i : Instr) (S : sS) (x y : sE) : Option (sE × sS) := match i with
  | .iadd => swr S (sadd x y 1)
  | .isub => swr S (sadd x y (-1))
  | .imul => (match sCv S y with
    | some c => swr S (sadd (sK 0) x c)
    | none => match sCv S x with
      | some c => swr S (sadd (sK 0) y c)
      | none => sfi S)
  | .iand => (match sCv S x, sCv S y with
    | none, some c => if 0 ≤ c then sfr 0 c S [] else sfi S
    | _, _ => sfo (fun a b => a &&& b) S x y)
  | .ior => sfo (fun a b => a ||| b) S x y
  | .ixor => sfo (fun a b => a ^^^ b) S x y
  | .ishl => sfo (fun a b => a <<< (b &&& 31)) S x y
  | .iushr => sfo zush S x y
  | .ishr => if sCv S y = some 0 then some (x, S) else sfo (fun a b => a >>> (b &&& 31)) S x y
  | .idiv => if snz S y = true then sdv S x y (-2147483648) 2147483647 else none
  | .irem => if snz S y = true then srm S x y (-2147483648) 2147483647 else none
  | _ => none
noncomputable def so2L (i : Instr) (S : sS) (x y : sE) : Option (sE × sS) := match i with
  | .ladd => swl S (sadd x y 1)
  | .lsub => swl S (sadd x y (-1))
  | .lmul => sfl S
  | .land => sfl S
  | .lor => sfl S
  | _ => none
section S1OK
variable {reg : Nat → Nat} {gv : Nat → zH → Int} {ρ ρ0 : Nat → Int} {S T : sS} {loc : zL} {stk : List zV} {h : zH} {e : sE}
theorem sms_drop {reg : Nat → Nat} {ρ : Nat → Int} : ∀ (k : Nat) {l : List zV} {t : List sV}, sms reg ρ l t → sms reg ρ (l.drop k) (t.drop k)
  | 0, _, _, hm => hm
  | _ + 1, [], [], _ => trivial
  | k + 1, _ :: _, _ :: _, hm => sms_drop k hm.2
theorem sms_i {reg : Nat → Nat} {ρ : Nat → Int} {l : List zV} {e : sE} {t : List sV} (hm : sms reg ρ l (.inl e :: t)) : ∃ x r, l = .inl x :: r ∧ x.toInt = sv ρ e ∧ sms reg ρ r t := by
  match l, hm with
  | .inl x :: r, hm => exact ⟨x, r, rfl, hm.1, hm.2⟩
theorem sms_l {reg : Nat → Nat} {ρ : Nat → Int} {l : List zV} {e : sE} {t : List sV} (hm : sms reg ρ l (.inr (.inl e) :: t)) : ∃ x r, l = .inr (.inl x) :: r ∧ x.toInt = sv ρ e ∧ sms reg ρ r t := by
  match l, hm with
  | .inr (.inl x) :: r, hm => exact ⟨x, r, rfl, hm.1, hm.2⟩
theorem sms_r {reg : Nat → Nat} {ρ : Nat → Int} {l : List zV} {g : Nat} {t : List sV} (hm : sms reg ρ l (.inr (.inr g) :: t)) : ∃ k r, l = .inr (.inr k) :: r ∧ reg k = g ∧ sms reg ρ r t := by
  match l, hm with
  | .inr (.inr x) :: r, hm => exact ⟨x, r, rfl, hm.1, hm.2⟩
theorem sMt_stk {stk' : List zV} {st' : List sV} (hM : sMt reg gv ρ ρ0 S loc stk h) (hs : sms reg ρ stk' st') : sMt reg gv ρ ρ0 (S.1, st', S.2.2) loc stk' h := ⟨hM.1, hs, hM.2.2⟩
theorem spu_go {z : Int32} {k n : Nat} {L : List (Nat × sS)} {o : Option (sE × sS)} (hL : spu k n o = some L) (ho : ∀ e T, o = some (e, T) → ∃ ρ', sMt reg gv ρ' ρ0 T loc stk h ∧ z.toInt = sv ρ' e) : sgo reg gv ρ0 L (n, loc, .inl z :: stk.drop k, h) := by
  match o, hL, ho with
  | some (e, T), hL, ho =>
    cases hL
    obtain ⟨ρ', hM, hz⟩ := ho e T rfl
    exact ⟨_, List.mem_singleton.mpr rfl, ρ', rfl, sMt_stk hM ⟨hz, sms_drop k hM.2.1⟩⟩
theorem spl_go {z : Int64} {k n : Nat} {L : List (Nat × sS)} {o : Option (sE × sS)} (hL : spl k n o = some L) (ho : ∀ e T, o = some (e, T) → ∃ ρ', sMt reg gv ρ' ρ0 T loc stk h ∧ z.toInt = sv ρ' e) : sgo reg gv ρ0 L (n, loc, .inr (.inl z) :: stk.drop k, h) := by
  match o, hL, ho with
  | some (e, T), hL, ho =>
    cases hL
    obtain ⟨ρ', hM, hz⟩ := ho e T rfl
    exact ⟨_, List.mem_singleton.mpr rfl, ρ', rfl, sMt_stk hM ⟨hz, sms_drop k hM.2.1⟩⟩
theorem sk2 {α : Type} {p : (Nat → Int) → Prop} {q : (Nat → Int) → Prop} {r : Prop} (hx : ∃ ρ', p ρ' ∧ q ρ' ∧ r) : ∃ ρ', p ρ' ∧ q ρ' := by
  obtain ⟨ρ', a, b, _⟩ := hx
  exact ⟨ρ', a, b⟩
theorem sn0 {y : Int32} (hy : y.toInt ≠ 0) : ¬ y = 0 := fun e => hy (by rw [e]; rfl)
theorem sn0L {y : Int64} (hy : y.toInt ≠ 0) : ¬ y = 0 := fun e => hy (by rw [e]; rfl)
theorem sCv_v (hM : sMt reg gv ρ ρ0 S loc stk h) {e : sE} {c : Int} (hc : sCv S e = some c) : sv ρ e = c := by
  unfold sCv at hc
  cases ha : sLb S.2.2.2.1 e with
  | none => rw [ha] at hc; cases hc
  | some a =>
    cases hb : sUb S.2.2.2.1 e with
    | none => rw [ha, hb] at hc; cases hc
    | some b =>
      rw [ha, hb] at hc
      simp only at hc
      split at hc
      case isFalse => cases hc
      case isTrue q =>
        have hc := Option.some.inj hc
        have h1 := sLb_le hM.2.2.2.1 ha
        have h2 := sUb_le hM.2.2.2.1 hb
        omega
theorem sfo_v {f : Int32 → Int32 → Int32} {x y : Int32} {ex ey : sE} (hM : sMt reg gv ρ ρ0 S loc stk h) (hx : x.toInt = sv ρ ex) (hy : y.toInt = sv ρ ey) (ho : sfo f S ex ey = some (e, T)) : ∃ ρ', sMt reg gv ρ' ρ0 T loc stk h ∧ (f x y).toInt = sv ρ' e ∧ T.2.1 = S.2.1 := by
  unfold sfo at ho
  cases hc : sCv S ex with
  | none => rw [hc] at ho; exact sfi_ok ho hM _
  | some a =>
    cases hd : sCv S ey with
    | none => rw [hc, hd] at ho; exact sfi_ok ho hM _
    | some b =>
      rw [hc, hd] at ho
      cases ho
      have h1 := sCv_v hM hc
      have h2 := sCv_v hM hd
      have ex : x = Int32.ofInt a := by rw [← h1, ← hx, Int32.ofInt_toInt]
      have ey : y = Int32.ofInt b := by rw [← h2, ← hy, Int32.ofInt_toInt]
      refine ⟨ρ, hM, ?_, rfl⟩
      rw [sK_v, ex, ey]
theorem so2_ok {i : Instr} {pc : Nat} {x y : Int32} {r : List zV} {ex ey : sE} {L : List (Nat × sS)} (hM : sMt reg gv ρ ρ0 S loc (.inl y :: .inl x :: r) h) (hx : x.toInt = sv ρ ex) (hy : y.toInt = sv ρ ey) (hL : spu 2 (pc + 1) (so2 i S ex ey) = some L) : ∃ q, zf1 i pc loc (.inl y :: .inl x :: r) h = some q ∧ q.2.2.2 = h ∧ sgo reg gv ρ0 L q := by
  cases i
  case iadd => exact ⟨_, rfl, rfl, spu_go hL (fun e T ho => sk2 (α := Nat) (swr_ok ho hM (x + y) (fun h1 h2 => by rw [sadd_v] at h1 h2 ⊢; rw [sadd32 _ _ (by omega) (by omega)]; omega)))⟩
  case isub => exact ⟨_, rfl, rfl, spu_go hL (fun e T ho => sk2 (α := Nat) (swr_ok ho hM (x - y) (fun h1 h2 => by rw [sadd_v] at h1 h2 ⊢; rw [ssub32 _ _ (by omega) (by omega)]; omega)))⟩
  case imul =>
    refine ⟨_, rfl, rfl, spu_go (stk := .inl y :: .inl x :: r) hL (fun e T ho => sk2 (α := Nat) (?_ : ∃ ρ', _ ∧ (x * y).toInt = _ ∧ T.2.1 = S.2.1))⟩
    simp only [so2] at ho
    cases hc : sCv S ey with
    | some c =>
      rw [hc] at ho
      have hc := sCv_v hM hc
      exact swr_ok ho hM (x * y) (fun h1 h2 => by
        rw [sadd_v, sK_v] at h1 h2 ⊢
        have e1 : x.toInt * y.toInt = c * sv ρ ex := by rw [hx, hy, hc, Int.mul_comm]
        rw [smul32 _ _ (by omega) (by omega)]
        omega)
    | none =>
      rw [hc] at ho
      simp only at ho
      cases hc2 : sCv S ex with
      | some c =>
        rw [hc2] at ho
        have hc2 := sCv_v hM hc2
        exact swr_ok ho hM (x * y) (fun h1 h2 => by
          rw [sadd_v, sK_v] at h1 h2 ⊢
          have e1 : x.toInt * y.toInt = c * sv ρ ey := by rw [hx, hy, hc2]
          rw [smul32 _ _ (by omega) (by omega)]
          omega)
      | none =>
        rw [hc2] at ho
        exact sfi_ok ho hM _
  case iand =>
    refine ⟨_, rfl, rfl, spu_go (stk := .inl y :: .inl x :: r) hL (fun e T ho => sk2 (α := Nat) (?_ : ∃ ρ', _ ∧ (x &&& y).toInt = _ ∧ T.2.1 = S.2.1))⟩
    simp only [so2] at ho
    split at ho
    case h_1 c hcx hcy =>
      have hc := sCv_v hM hcy
      split at ho
      · have := sand32 x y (by omega)
        obtain ⟨ρ', a, b, -, -, c2, -⟩ := sfr_ok ho hM this.1 (show _ ≤ c by omega)
        exact ⟨ρ', a, b.symm, c2⟩
      · exact sfi_ok ho hM _
    case h_2 => exact sfo_v hM hx hy ho
  case ior => exact ⟨_, rfl, rfl, spu_go (stk := .inl y :: .inl x :: r) hL (fun e T ho => sk2 (α := Nat) (sfo_v hM hx hy ho))⟩
  case ixor => exact ⟨_, rfl, rfl, spu_go (stk := .inl y :: .inl x :: r) hL (fun e T ho => sk2 (α := Nat) (sfo_v hM hx hy ho))⟩
  case ishl => exact ⟨_, rfl, rfl, spu_go (stk := .inl y :: .inl x :: r) hL (fun e T ho => sk2 (α := Nat) (sfo_v (f := fun a b => a <<< (b &&& 31)) hM hx hy ho))⟩
  case iushr => exact ⟨_, rfl, rfl, spu_go (stk := .inl y :: .inl x :: r) hL (fun e T ho => sk2 (α := Nat) (sfo_v (f := zush) hM hx hy ho))⟩
  case ishr =>
    refine ⟨_, rfl, rfl, spu_go (stk := .inl y :: .inl x :: r) hL (fun e T ho => sk2 (α := Nat) (?_ : ∃ ρ', _ ∧ (x >>> (y &&& 31)).toInt = _ ∧ T.2.1 = S.2.1))⟩
    simp only [so2] at ho
    split at ho
    case isTrue q =>
      cases ho
      have q := sCv_v hM q
      have e0 : y = 0 := Int32.toInt_inj.mp (by rw [hy, q]; rfl)
      have e1 : x >>> (y &&& 31) = x := by rw [e0, sshr0]
      rw [e1]
      exact ⟨ρ, hM, hx, rfl⟩
    case isFalse => exact sfo_v (f := fun a b => a >>> (b &&& 31)) hM hx hy ho
  case idiv =>
    simp only [so2] at hL
    by_cases hn : snz S ey = true
    · rw [if_pos hn] at hL
      have hnz := snz_ok hM hn
      rw [← hy] at hnz
      refine ⟨(pc + 1, loc, .inl (x / y) :: r, h), ?_, rfl, spu_go hL (fun e T ho => sk2 (α := Nat) (sdv_ok ho hM (si32 (x / y)).1 (si32 (x / y)).2 (fun h1 h2 => by rw [sdiv32 x y (by omega) (by omega), hx, hy])))⟩
      simp only [zf1, zo2, zgd]
      rw [if_pos (decide_eq_true (sn0 hnz))]
    · rw [if_neg hn] at hL; cases hL
  case irem =>
    simp only [so2] at hL
    by_cases hn : snz S ey = true
    · rw [if_pos hn] at hL
      have hnz := snz_ok hM hn
      rw [← hy] at hnz
      refine ⟨(pc + 1, loc, .inl (x - x / y * y) :: r, h), ?_, rfl, spu_go hL (fun e T ho => sk2 (α := Nat) (srm_ok ho hM (si32 (x - x / y * y)).1 (si32 (x - x / y * y)).2 (fun h1 h2 => by rw [srem32 x y (by omega) (by omega), hx, hy])))⟩
      simp only [zf1, zo2, zgd]
      rw [if_pos (decide_eq_true (sn0 hnz))]
    · rw [if_neg hn] at hL; cases hL
  all_goals cases hL
theorem so2L_ok {i : Instr} {pc : Nat} {x y : Int64} {r : List zV} {ex ey : sE} {L : List (Nat × sS)} (hM : sMt reg gv ρ ρ0 S loc (.inr (.inl y) :: .inr (.inl x) :: r) h) (hx : x.toInt = sv ρ ex) (hy : y.toInt = sv ρ ey) (hL : spl 2 (pc + 1) (so2L i S ex ey) = some L) : ∃ q, zf1 i pc loc (.inr (.inl y) :: .inr (.inl x) :: r) h = some q ∧ q.2.2.2 = h ∧ sgo reg gv ρ0 L q := by
  cases i
  case ladd => exact ⟨_, rfl, rfl, spl_go hL (fun e T ho => sk2 (α := Nat) (swl_ok ho hM (x + y) (fun h1 h2 => by rw [sadd_v] at h1 h2 ⊢; rw [sadd64 _ _ (by omega) (by omega)]; omega)))⟩
  case lsub => exact ⟨_, rfl, rfl, spl_go hL (fun e T ho => sk2 (α := Nat) (swl_ok ho hM (x - y) (fun h1 h2 => by rw [sadd_v] at h1 h2 ⊢; rw [ssub64 _ _ (by omega) (by omega)]; omega)))⟩
  case lmul => exact ⟨_, rfl, rfl, spl_go hL (fun e T ho => sk2 (α := Nat) (sfl_ok ho hM _))⟩
  case land => exact ⟨_, rfl, rfl, spl_go hL (fun e T ho => sk2 (α := Nat) (sfl_ok ho hM _))⟩
  case lor => exact ⟨_, rfl, rfl, spl_go hL (fun e T ho => sk2 (α := Nat) (sfl_ok ho hM _))⟩
  all_goals cases hL
end S1OK
