/-! the engine Q: 80.c.qstep -/
section S2D
variable (rin : Nat → (Nat × List Nat) ⊕ (Nat × Nat × List Nat)) (sing : Nat → Bool) (gG : Nat → List (Nat × Nat × Int × Int)) (gu : Nat → sD) (md : sD) (fld : Nat → Option (Nat × Nat × Nat))
noncomputable def sstQ (S : sS) (r : Nat) (e v : sE) (rest : List sV) (n : Nat) : Option (List (Nat × sS)) := match sstrQ sing gG gu md S r e v with
  | some T => some [(n, (T.1, rest, T.2.2))]
  | none => none
noncomputable def s2Q (i : Instr) (pc : Nat) (S : sS) : Option (List (Nat × sS)) := match i with
  | .getfield idx => (match S.2.1 with
    | .inr (.inr r) :: rest => (match zfo rin fld r idx with
      | some (fi, 0, _) => spu 1 (pc + 3) (sldQ sing gG S r (sK fi))
      | some (_, 1, _) => spl 1 (pc + 3) (sfl S)
      | some (_, t + 2, _) => some [(pc + 3, (S.1, .inr (.inr t) :: rest, S.2.2))]
      | none => none)
    | _ => none)
  | .putfield idx => (match S.2.1 with
    | .inl x :: .inr (.inr r) :: rest => (match zfo rin fld r idx with
      | some (fi, 0, b) => if (decide (b = 0) || (decide (b = 1) && sb01 S x)) = true then sstQ sing gG gu md S r (sK fi) x rest (pc + 3) else none
      | _ => none)
    | .inr (.inl _) :: .inr (.inr r) :: rest => (match zfo rin fld r idx with
      | some (_, 1, b) => if b = 2 then some [(pc + 3, (S.1, rest, S.2.2))] else none
      | _ => none)
    | _ => none)
  | .iaload => (match S.2.1 with
    | .inl e :: .inr (.inr r) :: _ => (match zar rin r 0 with
      | some (n, _) => if sin S e n = true then spu 2 (pc + 1) (sldQ sing gG S r e) else none
      | none => none)
    | _ => none)
  | .baload => (match S.2.1 with
    | .inl e :: .inr (.inr r) :: _ => (match zar rin r 1 with
      | some (n, _) => if sin S e n = true then spu 2 (pc + 1) (sldQ sing gG S r e) else none
      | none => none)
    | _ => none)
  | .aaload => (match S.2.1 with
    | .inl e :: .inr (.inr r) :: rest => (match rin r with
      | .inr (t, n, q) => if (decide (t = 2 ∨ t = 3) && (decide (q.length = n) && (sin S e n && q.all (fun g => g == q.headD 0)))) = true then some [(pc + 1, (S.1, .inr (.inr (q.headD 0)) :: rest, S.2.2))] else none
      | _ => none)
    | _ => none)
  | .iastore => (match S.2.1 with
    | .inl v :: .inl e :: .inr (.inr r) :: rest => (match zar rin r 0 with
      | some (n, _) => if sin S e n = true then sstQ sing gG gu md S r e v rest (pc + 1) else none
      | none => none)
    | _ => none)
  | .bastore => (match S.2.1 with
    | .inl v :: .inl e :: .inr (.inr r) :: rest => (match zar rin r 1 with
      | some (n, _) => if (sin S e n && sb01 S v) = true then sstQ sing gG gu md S r e v rest (pc + 1) else none
      | none => none)
    | _ => none)
  | .arraylength => (match S.2.1 with
    | .inr (.inr r) :: rest => (match rin r with
      | .inr (t, n, _) => if t ≤ 3 ∧ n ≤ 2147483647 then some [(pc + 1, (S.1, .inl (sK n) :: rest, S.2.2))] else none
      | _ => none)
    | _ => none)
  | _ => none
end S2D
section S2OK
variable {tab rin : Nat → (Nat × List Nat) ⊕ (Nat × Nat × List Nat)} {reg : Nat → Nat} {sing : Nat → Bool} {gG : Nat → List (Nat × Nat × Int × Int)} {gu : Nat → sD} {md : sD} {fld : Nat → Option (Nat × Nat × Nat)} {gv : Nat → Int → Int → zH → Prop} {ρ ρ0 : Nat → Int} {S T : sS} {loc : zL} {stk : List zV} {h h0 : zH} {e : sE}
theorem sin_okQ {n : Nat} {x : Int32} (hM : sMtQ reg gv ρ ρ0 S loc stk h) (hi : sin S e n = true) (hx : x.toInt = sv ρ e) : zin x n = true ∧ 0 ≤ sv ρ e ∧ x.toNatClampNeg = (sv ρ e).toNat := by
  unfold sin at hi
  rw [Bool.and_eq_true] at hi
  have h1 := spr_leQ hM hi.1
  have h2 := spr_leQ hM hi.2
  rw [sng_v] at h1
  rw [sac_v] at h2
  refine ⟨decide_eq_true ⟨by omega, by omega⟩, by omega, ?_⟩
  show x.toInt.toNat = _
  rw [hx]
theorem sb01_okQ {x : Int32} (hM : sMtQ reg gv ρ ρ0 S loc stk h) (hi : sb01 S e = true) (hx : x.toInt = sv ρ e) : x = 0 ∨ x = 1 := by
  unfold sb01 at hi
  rw [Bool.and_eq_true] at hi
  have h1 := spr_leQ hM hi.1
  have h2 := spr_leQ hM hi.2
  rw [sng_v] at h1
  rw [sac_v] at h2
  have : x.toInt = 0 ∨ x.toInt = 1 := by omega
  rcases this with q | q
  · exact Or.inl (Int32.toInt_inj.mp q)
  · exact Or.inr (Int32.toInt_inj.mp q)
theorem sst_okQ (hsing : ∀ k k', sing (reg k) = true → reg k' = reg k → k' = k) (hr : ∀ k, reg k < 1000) (hgv : sGvQ reg gu gv) (hG : sG reg gG h) (hF : sF reg md h0 h) (hM : sMtQ reg gv ρ ρ0 S loc stk h) {k n : Nat} {v : sE} {x : Int32} {rest : List sV} {stk' : List zV} {L : List (Nat × sS)} (he : 0 ≤ sv ρ e) (hx : x.toInt = sv ρ v) (hs : sms reg ρ stk' rest) (hL : sstQ sing gG gu md S (reg k) e v rest n = some L) : sG reg gG (zs h k (sv ρ e).toNat x) ∧ sF reg md h0 (zs h k (sv ρ e).toNat x) ∧ sgoQ reg gv ρ0 L (n, loc, stk', zs h k (sv ρ e).toNat x) := by
  unfold sstQ at hL
  cases hq : sstrQ sing gG gu md S (reg k) e v with
  | none => rw [hq] at hL; cases hL
  | some T =>
    rw [hq] at hL
    cases hL
    obtain ⟨a, b, c, -⟩ := sstr_okQ hsing hgv hG hF hM (hr k) he hx hq
    exact ⟨b, c, _, List.mem_singleton.mpr rfl, ρ, rfl, sMt_stkQ a hs⟩
theorem szslQ {x : Int64} {k : Nat} (hgv : sGvQ reg gu gv) (hG : sG reg gG h) (hF : sF reg md h0 h) (hM : sMtQ reg gv ρ ρ0 S loc stk h) : sG reg gG (zsl h k x) ∧ sF reg md h0 (zsl h k x) ∧ sMtQ reg gv ρ ρ0 S loc stk (zsl h k x) := by
  refine ⟨hG, hF, hM.1, hM.2.1, ?_, hM.2.2.2⟩
  intro m hm
  have q := hM.2.2.1 m hm
  unfold smmQ at q ⊢
  by_cases hr : m.1 < 1000
  · rw [if_pos hr] at q ⊢
    exact q
  · rw [if_neg hr] at q ⊢
    by_cases hr2 : m.1 < 2000
    · rw [if_pos hr2] at q ⊢
      exact hgv _ _ _ h _ (fun _ _ _ => rfl) q
    · rw [if_neg hr2] at q ⊢
      exact q
set_option maxHeartbeats 2000000 in
theorem s2_okQ (hcomp : ∀ k, rin (reg k) = smT reg (tab k)) (hsing : ∀ k k', sing (reg k) = true → reg k' = reg k → k' = k) (hr : ∀ k, reg k < 1000) (hgv : sGvQ reg gu gv) (hG : sG reg gG h) (hF : sF reg md h0 h) {i : Instr} {pc : Nat} {L : List (Nat × sS)} (hM : sMtQ reg gv ρ ρ0 S loc stk h) (hL : s2Q rin sing gG gu md fld i pc S = some L) : ∃ q, zf2 tab fld i pc loc stk h = some q ∧ sG reg gG q.2.2.2 ∧ sF reg md h0 q.2.2.2 ∧ sgoQ reg gv ρ0 L q := by
  have hs := hM.2.1
  cases i
  case getfield idx =>
    simp only [s2Q] at hL
    match hst : S.2.1, hL, hs with
    | .inr (.inr r) :: rest, hL, hs =>
      obtain ⟨k, r1, rfl, rfl, e2⟩ := sms_r hs
      simp only at hL
      cases hfo : zfo rin fld (reg k) idx with
      | none => rw [hfo] at hL; cases hL
      | some z =>
        obtain ⟨fi, t', b⟩ := z
        obtain ⟨t, ht, htt⟩ := sfo_ok hcomp hfo
        rw [hfo] at hL
        have hz : zf2 tab fld (.getfield idx) pc loc (.inr (.inr k) :: r1) h = some (pc + 3, loc, zfa h k fi t :: r1, h) := by
          simp only [zf2, zoR1, ht, zoF]
        match t, htt with
        | 0, htt =>
          subst htt
          refine ⟨_, hz, hG, hF, ?_⟩
          exact spu_goQ (stk := .inr (.inr k) :: r1) (z := h.1 k fi) hL (fun e T ho => by
            obtain ⟨ρ', a, b, -⟩ := sld_okQ hsing hG hM (hr k) (e := sK fi) (by rw [sK_v]; omega) ho
            rw [sK_v] at b
            exact ⟨ρ', a, b⟩)
        | 1, htt =>
          subst htt
          exact ⟨_, hz, hG, hF, spl_goQ (stk := .inr (.inr k) :: r1) (z := h.2 k) hL (fun e T ho => sk2 (α := Nat) (sfl_okQ ho hM _))⟩
        | j + 2, htt =>
          rw [if_neg (by omega)] at htt
          subst htt
          cases hL
          exact ⟨_, hz, hG, hF, _, List.mem_singleton.mpr rfl, ρ, rfl, sMt_stkQ hM ⟨rfl, e2⟩⟩
  case putfield idx =>
    simp only [s2Q] at hL
    match hst : S.2.1, hL, hs with
    | .inl x :: .inr (.inr r) :: rest, hL, hs =>
      obtain ⟨x', r1, rfl, e1, e2⟩ := sms_i hs
      obtain ⟨k, r2, rfl, rfl, e3⟩ := sms_r e2
      simp only at hL
      cases hfo : zfo rin fld (reg k) idx with
      | none => rw [hfo] at hL; cases hL
      | some z =>
        obtain ⟨fi, t', b⟩ := z
        obtain ⟨t, ht, htt⟩ := sfo_ok hcomp hfo
        rw [hfo] at hL
        match t', hL, htt with
        | 0, hL, htt =>
          have ht0 : t = 0 := by
            by_cases h2 : t < 2
            · rw [if_pos h2] at htt; exact htt.symm
            · rw [if_neg h2] at htt; cases htt
          subst ht0
          simp only at hL
          split at hL
          case isFalse => cases hL
          case isTrue q =>
            simp only [Bool.or_eq_true, Bool.and_eq_true, decide_eq_true_eq] at q
            have hb : zbit b x' = true := by
              unfold zbit
              simp only [Bool.or_eq_true, Bool.and_eq_true, decide_eq_true_eq]
              rcases q with q | q
              · exact ⟨by omega, Or.inl q⟩
              · exact ⟨by omega, Or.inr (sb01_okQ hM q.2 e1)⟩
            have hh := sst_okQ hsing hr hgv hG hF hM (e := sK fi) (by rw [sK_v]; omega) e1 e3 hL
            rw [sK_v] at hh
            refine ⟨(pc + 3, loc, r2, zs h k fi x'), ?_, hh.1, hh.2.1, hh.2.2⟩
            simp only [zf2, ht, zoF, zgd, hb]
            rfl
    | .inr (.inl x) :: .inr (.inr r) :: rest, hL, hs =>
      obtain ⟨x', r1, rfl, e1, e2⟩ := sms_l hs
      obtain ⟨k, r2, rfl, rfl, e3⟩ := sms_r e2
      simp only at hL
      cases hfo : zfo rin fld (reg k) idx with
      | none => rw [hfo] at hL; cases hL
      | some z =>
        obtain ⟨fi, t', b⟩ := z
        obtain ⟨t, ht, htt⟩ := sfo_ok hcomp hfo
        rw [hfo] at hL
        match t', hL, htt with
        | 1, hL, htt =>
          have ht0 : t = 1 := by
            by_cases h2 : t < 2
            · rw [if_pos h2] at htt; exact htt.symm
            · rw [if_neg h2] at htt; omega
          subst ht0
          simp only at hL
          split at hL
          case isFalse => cases hL
          case isTrue q =>
            cases hL
            obtain ⟨a, b2, c⟩ := szslQ (k := k) (x := x') hgv hG hF hM
            refine ⟨(pc + 3, loc, r2, zsl h k x'), ?_, a, b2, _, List.mem_singleton.mpr rfl, ρ, rfl, sMt_stkQ c e3⟩
            simp only [zf2, ht, zoF, zgd, q]
            rfl
  case iaload =>
    simp only [s2Q] at hL
    match hst : S.2.1, hL, hs with
    | .inl e :: .inr (.inr r) :: rest, hL, hs =>
      obtain ⟨x', r1, rfl, e1, e2⟩ := sms_i hs
      obtain ⟨k, r2, rfl, rfl, e3⟩ := sms_r e2
      simp only at hL
      cases hz : zar rin (reg k) 0 with
      | none => rw [hz] at hL; cases hL
      | some z =>
        obtain ⟨n, q⟩ := z
        rw [hz] at hL
        obtain ⟨hz2, -⟩ := sar_ok hcomp (by decide) (by decide) (by decide) hz
        simp only at hL
        split at hL
        case isFalse => cases hL
        case isTrue hi =>
          obtain ⟨i1, i2, i3⟩ := sin_okQ hM hi e1
          refine ⟨(pc + 1, loc, .inl (h.1 k x'.toNatClampNeg) :: r2, h), ?_, hG, hF, ?_⟩
          · simp only [zf2, zoRI, hz2, zoA, zgd, i1]
            rfl
          · exact spu_goQ (stk := .inl x' :: .inr (.inr k) :: r2) hL (fun e T ho => by
              obtain ⟨ρ', a, b, -⟩ := sld_okQ hsing hG hM (hr k) i2 ho
              rw [i3]
              exact ⟨ρ', a, b⟩)
  case baload =>
    simp only [s2Q] at hL
    match hst : S.2.1, hL, hs with
    | .inl e :: .inr (.inr r) :: rest, hL, hs =>
      obtain ⟨x', r1, rfl, e1, e2⟩ := sms_i hs
      obtain ⟨k, r2, rfl, rfl, e3⟩ := sms_r e2
      simp only at hL
      cases hz : zar rin (reg k) 1 with
      | none => rw [hz] at hL; cases hL
      | some z =>
        obtain ⟨n, q⟩ := z
        rw [hz] at hL
        obtain ⟨hz2, -⟩ := sar_ok hcomp (by decide) (by decide) (by decide) hz
        simp only at hL
        split at hL
        case isFalse => cases hL
        case isTrue hi =>
          obtain ⟨i1, i2, i3⟩ := sin_okQ hM hi e1
          refine ⟨(pc + 1, loc, .inl (h.1 k x'.toNatClampNeg) :: r2, h), ?_, hG, hF, ?_⟩
          · simp only [zf2, zoRI, hz2, zoA, zgd, i1]
            rfl
          · exact spu_goQ (stk := .inl x' :: .inr (.inr k) :: r2) hL (fun e T ho => by
              obtain ⟨ρ', a, b, -⟩ := sld_okQ hsing hG hM (hr k) i2 ho
              rw [i3]
              exact ⟨ρ', a, b⟩)
  case aaload =>
    simp only [s2Q] at hL
    match hst : S.2.1, hL, hs with
    | .inl e :: .inr (.inr r) :: rest, hL, hs =>
      obtain ⟨x', r1, rfl, e1, e2⟩ := sms_i hs
      obtain ⟨k, r2, rfl, rfl, e3⟩ := sms_r e2
      simp only at hL
      cases ht : tab k with
      | inl z => obtain ⟨a, b⟩ := z; rw [hcomp k, ht] at hL; cases hL
      | inr z =>
        obtain ⟨t, n, q⟩ := z
        rw [hcomp k, ht] at hL
        simp only [smT] at hL
        by_cases c0 : t = 2 ∨ t = 3
        case neg =>
          rw [decide_eq_false c0, Bool.false_and] at hL
          cases hL
        case pos =>
        have h5 : ¬ t = 5 := by omega
        simp only [if_neg h5, if_pos c0] at hL
        split at hL
        case isFalse => cases hL
        case isTrue hc =>
          simp only [Bool.and_eq_true, decide_eq_true_eq] at hc
          obtain ⟨c1, c2, c3, c4⟩ := hc
          cases hL
          obtain ⟨i1, i2, i3⟩ := sin_okQ hM c3 e1
          have hlt : x'.toNatClampNeg < q.length := by
            have := of_decide_eq_true i1
            rw [List.length_map] at c2
            rw [c2]
            show x'.toInt.toNat < n
            omega
          have hget : q[x'.toNatClampNeg]? = some q[x'.toNatClampNeg] := List.getElem?_eq_getElem hlt
          refine ⟨(pc + 1, loc, .inr (.inr q[x'.toNatClampNeg]) :: r2, h), ?_, hG, hF, _, List.mem_singleton.mpr rfl, ρ, rfl, sMt_stkQ hM ⟨?_, e3⟩⟩
          · simp only [zf2, zoRI, ht, zgd, i1, decide_eq_true c1, hget]
            rfl
          · rw [List.all_eq_true] at c4
            have := c4 (reg q[x'.toNatClampNeg]) (List.mem_map.mpr ⟨_, List.getElem_mem hlt, rfl⟩)
            exact eq_of_beq this
  case iastore =>
    simp only [s2Q] at hL
    match hst : S.2.1, hL, hs with
    | .inl v :: .inl e :: .inr (.inr r) :: rest, hL, hs =>
      obtain ⟨v', r0, rfl, e0, ev⟩ := sms_i hs
      obtain ⟨x', r1, rfl, e1, e2⟩ := sms_i ev
      obtain ⟨k, r2, rfl, rfl, e3⟩ := sms_r e2
      simp only at hL
      cases hz : zar rin (reg k) 0 with
      | none => rw [hz] at hL; cases hL
      | some z =>
        obtain ⟨n, q⟩ := z
        rw [hz] at hL
        obtain ⟨hz2, -⟩ := sar_ok hcomp (by decide) (by decide) (by decide) hz
        simp only at hL
        split at hL
        case isFalse => cases hL
        case isTrue hi =>
          obtain ⟨i1, i2, i3⟩ := sin_okQ hM hi e1
          have hh := sst_okQ hsing hr hgv hG hF hM i2 e0 e3 hL
          rw [← i3] at hh
          refine ⟨(pc + 1, loc, r2, zs h k x'.toNatClampNeg v'), ?_, hh.1, hh.2.1, hh.2.2⟩
          simp only [zf2, zoRII, hz2, zoA, zgd, i1]
          rfl
  case bastore =>
    simp only [s2Q] at hL
    match hst : S.2.1, hL, hs with
    | .inl v :: .inl e :: .inr (.inr r) :: rest, hL, hs =>
      obtain ⟨v', r0, rfl, e0, ev⟩ := sms_i hs
      obtain ⟨x', r1, rfl, e1, e2⟩ := sms_i ev
      obtain ⟨k, r2, rfl, rfl, e3⟩ := sms_r e2
      simp only at hL
      cases hz : zar rin (reg k) 1 with
      | none => rw [hz] at hL; cases hL
      | some z =>
        obtain ⟨n, q⟩ := z
        rw [hz] at hL
        obtain ⟨hz2, -⟩ := sar_ok hcomp (by decide) (by decide) (by decide) hz
        simp only at hL
        split at hL
        case isFalse => cases hL
        case isTrue hi =>
          rw [Bool.and_eq_true] at hi
          obtain ⟨i1, i2, i3⟩ := sin_okQ hM hi.1 e1
          have hv := sb01_okQ hM hi.2 e0
          have hh := sst_okQ hsing hr hgv hG hF hM i2 e0 e3 hL
          rw [← i3] at hh
          refine ⟨(pc + 1, loc, r2, zs h k x'.toNatClampNeg v'), ?_, hh.1, hh.2.1, hh.2.2⟩
          simp only [zf2, zoRII, hz2, zoA, zgd, i1, decide_eq_true hv]
          rfl
  case arraylength =>
    simp only [s2Q] at hL
    match hst : S.2.1, hL, hs with
    | .inr (.inr r) :: rest, hL, hs =>
      obtain ⟨k, r2, rfl, rfl, e3⟩ := sms_r hs
      simp only at hL
      cases ht : tab k with
      | inl z => obtain ⟨a, b⟩ := z; rw [hcomp k, ht] at hL; cases hL
      | inr z =>
        obtain ⟨t, n, q⟩ := z
        rw [hcomp k, ht] at hL
        simp only [smT] at hL
        by_cases h5 : t = 5
        case pos =>
          rw [if_neg (by omega)] at hL
          cases hL
        case neg =>
        simp only [if_neg h5] at hL
        split at hL
        case isFalse => cases hL
        case isTrue hc =>
          cases hL
          refine ⟨(pc + 1, loc, .inl (Int32.ofNat n) :: r2, h), ?_, hG, hF, _, List.mem_singleton.mpr rfl, ρ, rfl, sMt_stkQ hM ⟨?_, e3⟩⟩
          · simp only [zf2, zoR1, ht, zgd, decide_eq_true hc.1]
            rfl
          · show (Int32.ofNat n).toInt = _
            rw [sK_v]
            exact so32 (n := (n : Int)) (by omega) (by omega)
  all_goals cases hL
theorem slk_okQ {x : sE} {pc : Nat} {d : Int} : ∀ {l : List (Int × Int)} {S : sS} {L : List (Nat × sS)}, sMtQ reg gv ρ ρ0 S loc stk h → slk S x pc d l = some L → 0 ≤ (pc : Int) + Op.lookupswitch.offset l d (sv ρ x) ∧ sgoQ reg gv ρ0 L (ztgt pc (Op.lookupswitch.offset l d (sv ρ x)), loc, stk, h)
  | [], S, L, hM, hL => by
    simp only [slk] at hL
    split at hL
    case isFalse => cases hL
    case isTrue q =>
      cases hL
      exact ⟨q, _, List.mem_singleton.mpr rfl, ρ, rfl, hM⟩
  | p :: r, S, L, hM, hL => by
    simp only [slk] at hL
    split at hL
    case isFalse => cases hL
    case isTrue q =>
      obtain ⟨a, o⟩ := p
      rw [Op.lookupswitch.offset_cons]
      by_cases ha : a = sv ρ x
      · rw [if_pos ha]
        refine ⟨q, ?_⟩
        obtain ⟨S', e1, e2, -⟩ := sceq_okQ hM (d := sac x (-a)) (by rw [sac_v]; omega)
        have hin : (ztgt pc o, S') ∈ L := by
          simp only [e1] at hL
          split at hL
          · split at hL
            · cases hL
              exact List.mem_append_left _ (List.mem_singleton.mpr rfl)
            · cases hL
          · cases hL
            exact List.mem_singleton.mpr rfl
        exact ⟨_, hin, ρ, rfl, e2⟩
      · rw [if_neg ha]
        obtain ⟨S', e1, e2, -⟩ := scne_okQ hM (d := sac x (-a)) (by rw [sac_v]; omega)
        rw [e1] at hL
        simp only at hL
        cases hk : slk S' x pc d r with
        | none => rw [hk] at hL; cases hL
        | some L2 =>
          rw [hk] at hL
          cases hL
          obtain ⟨a1, z, hz, b1⟩ := slk_okQ e2 hk
          exact ⟨a1, z, List.mem_append_right _ hz, b1⟩
theorem stb_okQ {x : sE} {pc : Nat} (hM : sMtQ reg gv ρ ρ0 S loc stk h) : ∀ {l : List Int} {k : Int} {L : List (Nat × sS)} {j : Nat} {o : Int}, stb S x pc k l = some L → l[j]? = some o → sv ρ x = k + j → 0 ≤ (pc : Int) + o ∧ sgoQ reg gv ρ0 L (ztgt pc o, loc, stk, h)
  | [], _, _, j, _, _, ho, _ => by cases ho
  | o1 :: r, k, L, j, o, hL, ho, hx => by
    simp only [stb] at hL
    split at hL
    case isFalse => cases hL
    case isTrue q =>
      cases hk : stb S x pc (k + 1) r with
      | none => rw [hk] at hL; cases hL
      | some L2 =>
        rw [hk] at hL
        cases hL
        match j, ho, hx with
        | 0, ho, hx =>
          cases ho
          obtain ⟨S', e1, e2, -⟩ := sceq_okQ hM (d := sac x (-k)) (by rw [sac_v]; omega)
          refine ⟨q, (ztgt pc o1, S'), ?_, ρ, rfl, e2⟩
          rw [e1]
          exact List.mem_append_left _ (List.mem_singleton.mpr rfl)
        | j + 1, ho, hx =>
          obtain ⟨a1, z, hz, b1⟩ := stb_okQ hM hk (show r[j]? = some o from ho) (by omega)
          exact ⟨a1, z, List.mem_append_right _ hz, b1⟩
set_option maxHeartbeats 2000000 in
theorem s4_okQ {i : Instr} {pc : Nat} {L : List (Nat × sS)} (hM : sMtQ reg gv ρ ρ0 S loc stk h) (hL : s4 i pc S = some L) : ∃ q, zf4 i pc loc stk h = some q ∧ q.2.2.2 = h ∧ sgoQ reg gv ρ0 L q := by
  have hs := hM.2.1
  cases i
  case lcmp =>
    simp only [s4] at hL
    match hst : S.2.1, hL, hs with
    | .inr (.inl y) :: .inr (.inl x) :: r, hL, hs =>
      obtain ⟨y', r1, rfl, e1, e2⟩ := sms_l hs
      obtain ⟨x', r2, rfl, e3, e4⟩ := sms_l e2
      cases hL
      refine ⟨_, rfl, rfl, ?_⟩
      have hM2 : sMtQ reg gv ρ ρ0 (S.1, r, S.2.2) loc r2 h := sMt_stkQ hM e4
      have he : sv ρ (sadd x y (-1)) = x'.toInt - y'.toInt := by rw [sadd_v, e1, e3]; omega
      have hc := scmp64 x' y'
      by_cases h1 : x'.toInt < y'.toInt
      · rw [if_pos h1] at hc
        obtain ⟨S', q1, q2, q3⟩ := scnd_okQ .lt hM2 (d := sadd x y (-1)) (by rw [he]; show _ < _; omega)
        refine ⟨(pc + 1, (S'.1, .inl (sK (-1)) :: S'.2.1, S'.2.2)), ?_, ρ, rfl, sMt_stkQ q2 ⟨by show (lg_cmp x' y').toInt = _; rw [hc, sK_v], q2.2.1⟩⟩
        rw [q1]
        exact List.mem_append_left _ (List.mem_singleton.mpr rfl)
      · rw [if_neg h1] at hc
        by_cases h2 : x'.toInt = y'.toInt
        · rw [if_pos h2] at hc
          obtain ⟨S', q1, q2, q3⟩ := scnd_okQ .eq hM2 (d := sadd x y (-1)) (by rw [he]; show _ = _; omega)
          refine ⟨(pc + 1, (S'.1, .inl (sK 0) :: S'.2.1, S'.2.2)), ?_, ρ, rfl, sMt_stkQ q2 ⟨by show (lg_cmp x' y').toInt = _; rw [hc, sK_v], q2.2.1⟩⟩
          rw [q1]
          exact List.mem_append_right _ (List.mem_append_left _ (List.mem_singleton.mpr rfl))
        · rw [if_neg h2] at hc
          obtain ⟨S', q1, q2, q3⟩ := scnd_okQ .gt hM2 (d := sadd x y (-1)) (by rw [he]; show _ < _; omega)
          refine ⟨(pc + 1, (S'.1, .inl (sK 1) :: S'.2.1, S'.2.2)), ?_, ρ, rfl, sMt_stkQ q2 ⟨by show (lg_cmp x' y').toInt = _; rw [hc, sK_v], q2.2.1⟩⟩
          rw [q1]
          exact List.mem_append_right _ (List.mem_append_right _ (List.mem_singleton.mpr rfl))
  case ldiv =>
    simp only [s4] at hL
    match hst : S.2.1, hL, hs with
    | .inr (.inl ey) :: .inr (.inl ex) :: r, hL, hs =>
      obtain ⟨y, r1, rfl, e1, e2⟩ := sms_l hs
      obtain ⟨x, r2, rfl, e3, e4⟩ := sms_l e2
      simp only at hL
      split at hL
      case isFalse => cases hL
      case isTrue hn =>
        have hnz := snz_okQ hM hn
        rw [← e1] at hnz
        refine ⟨(pc + 1, loc, .inr (.inl (x / y)) :: r2, h), ?_, rfl, spl_goQ (stk := .inr (.inl y) :: .inr (.inl x) :: r2) hL (fun e T ho => sk2 (α := Nat) (sdv_okQ ho hM (si64 (x / y)).1 (si64 (x / y)).2 (fun h1 h2 => by rw [sdiv64 x y (by omega) (by omega), e3, e1])))⟩
        simp only [zf4, zoL2, zgd]
        rw [if_pos (decide_eq_true (sn0L hnz))]
  case lrem =>
    simp only [s4] at hL
    match hst : S.2.1, hL, hs with
    | .inr (.inl ey) :: .inr (.inl ex) :: r, hL, hs =>
      obtain ⟨y, r1, rfl, e1, e2⟩ := sms_l hs
      obtain ⟨x, r2, rfl, e3, e4⟩ := sms_l e2
      simp only at hL
      split at hL
      case isFalse => cases hL
      case isTrue hn =>
        have hnz := snz_okQ hM hn
        rw [← e1] at hnz
        refine ⟨(pc + 1, loc, .inr (.inl (x - x / y * y)) :: r2, h), ?_, rfl, spl_goQ (stk := .inr (.inl y) :: .inr (.inl x) :: r2) hL (fun e T ho => sk2 (α := Nat) (srm_okQ ho hM (si64 (x - x / y * y)).1 (si64 (x - x / y * y)).2 (fun h1 h2 => by rw [srem64 x y (by omega) (by omega), e3, e1])))⟩
        simp only [zf4, zoL2, zgd]
        rw [if_pos (decide_eq_true (sn0L hnz))]
  case lushr =>
    simp only [s4] at hL
    match hst : S.2.1, hL, hs with
    | .inl ey :: .inr (.inl ex) :: r, hL, hs =>
      obtain ⟨y, r1, rfl, e1, e2⟩ := sms_i hs
      obtain ⟨x, r2, rfl, e3, e4⟩ := sms_l e2
      simp only at hL
      split at hL
      case isFalse => cases hL
      case isTrue hn =>
        have hn := sCo_v (ρ := ρ) hn
        have hy : y = 33 := Int32.toInt_inj.mp (by rw [e1, hn]; rfl)
        subst hy
        refine ⟨_, rfl, rfl, spl_goQ (stk := .inl 33 :: .inr (.inl x) :: r2) hL (fun e T ho => ?_)⟩
        have hb := sshr33 x
        obtain ⟨ρ', a, b, -⟩ := sfr_okQ ho hM hb.1 hb.2
        exact ⟨ρ', a, b.symm⟩
  case lshl =>
    simp only [s4] at hL
    match hst : S.2.1, hL, hs with
    | .inl ey :: .inr (.inl ex) :: r, hL, hs =>
      obtain ⟨y, r1, rfl, e1, e2⟩ := sms_i hs
      obtain ⟨x, r2, rfl, e3, e4⟩ := sms_l e2
      exact ⟨_, rfl, rfl, spl_goQ (stk := .inl y :: .inr (.inl x) :: r2) hL (fun e T ho => sk2 (α := Nat) (sfl_okQ ho hM _))⟩
  case tableswitch d lo hi offs =>
    simp only [s4] at hL
    match hst : S.2.1, hL, hs with
    | .inl x :: r, hL, hs =>
      obtain ⟨x', r1, rfl, e1, e2⟩ := sms_i hs
      simp only at hL
      split at hL
      case isFalse => cases hL
      case isTrue hn =>
        have hM2 : sMtQ reg gv ρ ρ0 (S.1, r, S.2.2) loc r1 h := sMt_stkQ hM e2
        cases hb : stb (S.1, r, S.2.2) x pc lo offs.toList with
        | none => rw [hb] at hL; cases hL
        | some L2 =>
          rw [hb] at hL
          cases hL
          by_cases hc : x'.toInt < lo ∨ hi < x'.toInt
          · refine ⟨(ztgt pc d, loc, r1, h), ?_, rfl, ?_⟩
            · simp only [zf4, zo1]
              rw [if_pos hc]
              unfold zj
              rw [if_pos hn.1]
            · rcases hc with hc | hc
              · obtain ⟨S', q1, q2, -⟩ := sas_okQ hM2 (c := sac x (1 - lo)) (by rw [sac_v]; omega)
                refine ⟨(ztgt pc d, S'), ?_, ρ, rfl, q2⟩
                rw [q1]
                exact List.mem_append_left _ (List.mem_singleton.mpr rfl)
              · obtain ⟨S', q1, q2, -⟩ := sas_okQ hM2 (c := sac (sng x) (hi + 1)) (by rw [sac_v, sng_v]; omega)
                refine ⟨(ztgt pc d, S'), ?_, ρ, rfl, q2⟩
                rw [q1]
                exact List.mem_append_right _ (List.mem_append_left _ (List.mem_singleton.mpr rfl))
          · have hlt : (x'.toInt - lo).toNat < offs.size := by omega
            have hget : offs[(x'.toInt - lo).toNat]? = some offs[(x'.toInt - lo).toNat] := Array.getElem?_eq_getElem hlt
            obtain ⟨q1, z, q2, q3⟩ := stb_okQ (j := (x'.toInt - lo).toNat) hM2 hb (by rw [Array.getElem?_toList]; exact hget) (by omega)
            refine ⟨(ztgt pc offs[(x'.toInt - lo).toNat], loc, r1, h), ?_, rfl, z, List.mem_append_right _ (List.mem_append_right _ q2), q3⟩
            simp only [zf4, zo1]
            rw [if_neg hc, hget]
            simp only [zj]
            rw [if_pos q1]
  case lookupswitch d ps =>
    simp only [s4] at hL
    match hst : S.2.1, hL, hs with
    | .inl x :: r, hL, hs =>
      obtain ⟨x', r1, rfl, e1, e2⟩ := sms_i hs
      simp only at hL
      split at hL
      case isFalse => cases hL
      case isTrue hn =>
        have hM2 : sMtQ reg gv ρ ρ0 (S.1, r, S.2.2) loc r1 h := sMt_stkQ hM e2
        obtain ⟨q1, q2⟩ := slk_okQ hM2 hL
        rw [← e1] at q1 q2
        refine ⟨(ztgt pc (Op.lookupswitch.offset ps.toList d x'.toInt), loc, r1, h), ?_, rfl, q2⟩
        simp only [zf4, zo1, zgd, hn, zj]
        rw [if_pos q1]
        rfl
  all_goals cases hL
theorem s5_okQ {kI : Nat → Option Int32} {kL : Nat → Option Int64} {i : Instr} {pc : Nat} {L : List (Nat × sS)} (hM : sMtQ reg gv ρ ρ0 S loc stk h) (hL : s5 kI kL i pc S = some L) : ∃ q, zf5 kI kL i pc loc stk h = some q ∧ q.2.2.2 = h ∧ sgoQ reg gv ρ0 L q := by
  have hs := hM.2.1
  cases i
  case ldc x =>
    simp only [s5] at hL
    cases hv : kI x with
    | none => rw [hv] at hL; cases hL
    | some v =>
      rw [hv] at hL
      cases hL
      refine ⟨(pc + 2, loc, .inl v :: stk, h), ?_, rfl, _, List.mem_singleton.mpr rfl, ρ, rfl, sMt_stkQ hM ⟨(sK_v ..).symm, hs⟩⟩
      simp only [zf5, hv]
  case ldc_w x =>
    simp only [s5] at hL
    cases hv : kI x with
    | none => rw [hv] at hL; cases hL
    | some v =>
      rw [hv] at hL
      cases hL
      refine ⟨(pc + 3, loc, .inl v :: stk, h), ?_, rfl, _, List.mem_singleton.mpr rfl, ρ, rfl, sMt_stkQ hM ⟨(sK_v ..).symm, hs⟩⟩
      simp only [zf5, hv]
  case ldc2_w x =>
    simp only [s5] at hL
    cases hv : kL x with
    | none => rw [hv] at hL; cases hL
    | some v =>
      rw [hv] at hL
      cases hL
      refine ⟨(pc + 3, loc, .inr (.inl v) :: stk, h), ?_, rfl, _, List.mem_singleton.mpr rfl, ρ, rfl, sMt_stkQ hM ⟨(sK_v ..).symm, hs⟩⟩
      simp only [zf5, hv]
  all_goals cases hL
end S2OK
section S6D
variable (reg : Nat → Nat) (rin : Nat → (Nat × List Nat) ⊕ (Nat × Nat × List Nat)) (gG : Nat → List (Nat × Nat × Int × Int)) (gu : Nat → sD) (md : sD) (gst : Nat → Option zV) (kI : Nat → Option Int32) (ldS fldS : Nat → Option Nat) (acp : Nat → Bool)
noncomputable def sac6Q (S : sS) (pc : Nat) (n dp : sE) (a : Nat) (sp : sE) (b : Nat) (rest : List sV) : Option (List (Nat × sS)) := match rin a, rin b, sCo sp, sCo dp, sUb S.2.2.2.1 n with
  | .inr (t1, n1, _), .inr (t, n0, q), some s, some d, some u =>
    if (decide (t1 = 0) && (decide (t = 0 ∨ t = 4) && (decide ((rest.map sct).sum ≤ 8) && (decide (0 ≤ s) && (decide (0 ≤ d) && (spr S (sng n) && (spr S (sac n (s - n0)) && (spr S (sac n (d - n1)) && ((gG a).all (fun z => decide (d + u ≤ (z.1 : Int)) || (decide ((z.2.1 : Int) < d) || scv gG b t n0 q (max (z.1 : Int) d - d + s) (min (z.2.1 : Int) (d + u - 1) - d + s) z.2.2.1 z.2.2.2)) && md.any (fun z => decide (z.1 = a) && (decide (z.2.1 ≤ d) && decide (d + u - 1 ≤ z.2.2)))))))))))) = true then
      some [(pc + 3, ((sklQ gu [(a, d, d + u - 1)] S).1, rest, (sklQ gu [(a, d, d + u - 1)] S).2.2))] else none
  | _, _, _, _, _ => none
noncomputable def s6Q (i : Instr) (pc : Nat) (S : sS) : Option (List (Nat × sS)) := match i with
  | .getstatic idx => (match gst idx with
    | some (.inl x) => some [(pc + 3, (S.1, .inl (sK x.toInt) :: S.2.1, S.2.2))]
    | some (.inr (.inr k)) => some [(pc + 3, (S.1, .inr (.inr (reg k)) :: S.2.1, S.2.2))]
    | _ => none)
  | .ldc idx => (match kI idx, ldS idx with
    | none, some k => some [(pc + 2, (S.1, .inr (.inr (reg k)) :: S.2.1, S.2.2))]
    | _, _ => none)
  | .getfield idx => (match S.2.1 with
    | .inr (.inr r) :: rest => (match rin r, fldS idx with
      | .inr (5, v, _), some 0 => some [(pc + 3, (S.1, .inr (.inr v) :: rest, S.2.2))]
      | .inr (5, _, _), some (_ + 1) => some [(pc + 3, (S.1, .inl (sK 0) :: rest, S.2.2))]
      | _, _ => none)
    | _ => none)
  | .iaload => (match S.2.1 with
    | .inl e :: .inr (.inr r) :: rest => (match rin r with
      | .inr (4, n, q) => if (sin S e n && q.all (fun x => decide (x ≤ 2147483647))) = true then some ((List.range n).flatMap (fun (j : Nat) => (sceq (S.1, rest, S.2.2) (sac e (-(j : Int)))).toList.map (fun T => (pc + 1, (T.1, .inl (sK (q.getD j 0)) :: T.2.1, T.2.2))))) else none
      | _ => none)
    | _ => none)
  | .baload => (match S.2.1 with
    | .inl e :: .inr (.inr r) :: _ => (match rin r with
      | .inr (6, n, q) => if (sin S e n && (decide (q.length = n) && q.all (fun x => decide (1 ≤ x ∧ x ≤ 127)))) = true then spu 2 (pc + 1) (sfr 1 127 S []) else none
      | _ => none)
    | _ => none)
  | .arraylength => (match S.2.1 with
    | .inr (.inr r) :: rest => (match rin r with
      | .inr (t, n, _) => if (t = 4 ∨ t = 6) ∧ n ≤ 2147483647 then some [(pc + 1, (S.1, .inl (sK n) :: rest, S.2.2))] else none
      | _ => none)
    | _ => none)
  | .i2b => (match S.2.1 with
    | .inl x :: _ => spu 1 (pc + 1) (srg S x (-128) 127)
    | _ => none)
  | .invokestatic idx => if acp idx = true then (match S.2.1 with
    | .inl n :: .inl dp :: .inr (.inr a) :: .inl sp :: .inr (.inr b) :: rest => sac6Q rin gG gu md S pc n dp a sp b rest
    | _ => none) else none
  | _ => none
end S6D
section S6OK
variable {tab rin : Nat → (Nat × List Nat) ⊕ (Nat × Nat × List Nat)} {reg : Nat → Nat} {sing : Nat → Bool} {gG : Nat → List (Nat × Nat × Int × Int)} {gu : Nat → sD} {md : sD} {fld : Nat → Option (Nat × Nat × Nat)} {gst : Nat → Option zV} {kI : Nat → Option Int32} {kL : Nat → Option Int64} {ldS fldS : Nat → Option Nat} {acp : Nat → Bool} {gv : Nat → Int → Int → zH → Prop} {ρ ρ0 : Nat → Int} {S T : sS} {loc : zL} {stk : List zV} {h h0 : zH} {e : sE}
theorem sac6_okQ (hcomp : ∀ k, rin (reg k) = smT reg (tab k)) (hgv : sGvQ reg gu gv) (hG : sG reg gG h) (hF : sF reg md h0 h) {idx pc : Nat} {L : List (Nat × sS)} {n dp sp : Int32} {ka kb : Nat} {r : List zV} {en ed es : sE} {rest : List sV} (ha : acp idx = true) (hM : sMtQ reg gv ρ ρ0 S loc (.inl n :: .inl dp :: .inr (.inr ka) :: .inl sp :: .inr (.inr kb) :: r) h) (hn : n.toInt = sv ρ en) (hd : dp.toInt = sv ρ ed) (hs : sp.toInt = sv ρ es) (hr : sms reg ρ r rest) (hL : sac6Q rin gG gu md S pc en ed (reg ka) es (reg kb) rest = some L) : ∃ q, zf6 tab gst ldS fldS acp (.invokestatic idx) pc loc (.inl n :: .inl dp :: .inr (.inr ka) :: .inl sp :: .inr (.inr kb) :: r) h = some q ∧ sG reg gG q.2.2.2 ∧ sF reg md h0 q.2.2.2 ∧ sgoQ reg gv ρ0 L q := by
  unfold sac6Q at hL
  cases hra : rin (reg ka) with
  | inl z => rw [hra] at hL; cases hL
  | inr z =>
    obtain ⟨t1, n1, q1⟩ := z
    cases hrb : rin (reg kb) with
    | inl z => rw [hra, hrb] at hL; cases hL
    | inr z =>
      obtain ⟨t, n0, q⟩ := z
      cases hcs : sCo es with
      | none => rw [hra, hrb, hcs] at hL; cases hL
      | some s =>
        cases hcd : sCo ed with
        | none => rw [hra, hrb, hcs, hcd] at hL; cases hL
        | some d =>
          cases hcu : sUb S.2.2.2.1 en with
          | none => rw [hra, hrb, hcs, hcd, hcu] at hL; cases hL
          | some u =>
            rw [hra, hrb, hcs, hcd, hcu] at hL
            simp only at hL
            split at hL
            case isFalse => cases hL
            case isTrue hc =>
              cases hL
              simp only [Bool.and_eq_true, decide_eq_true_eq] at hc
              obtain ⟨c1, c2, c3, c4, c5, c6, c7, c8, c9, c10⟩ := hc
              subst c1
              have hta := srow hcomp hra (by omega) (by omega)
              have htb := srow hcomp hrb (by omega) (by omega)
              have hs := hs.trans (sCo_v hcs)
              have hd := hd.trans (sCo_v hcd)
              have hu := sUb_le hM.2.2.2.1 hcu
              have p6 := spr_leQ hM c6
              have p7 := spr_leQ hM c7
              have p8 := spr_leQ hM c8
              rw [sng_v] at p6
              rw [sac_v] at p7 p8
              have nn : n.toNatClampNeg = n.toInt.toNat := rfl
              have nd : dp.toNatClampNeg = dp.toInt.toNat := rfl
              have ns : sp.toNatClampNeg = sp.toInt.toNat := rfl
              have hsum : (r.map zcat).sum ≤ 8 := by rw [scat_sum hr]; exact c3
              generalize hh2 : zsr h ka (va_cpy (if t = 0 then h.1 kb else fun j => Int32.ofNat (q.getD j 0)) (h.1 ka) sp.toNatClampNeg dp.toNatClampNeg n.toNatClampNeg) = h2
              have hv1 : ∀ k, k ≠ ka → h2.1 k = h.1 k := fun k hk => by
                rw [← hh2]
                show (if k = ka then _ else _) = _
                rw [if_neg hk]
              have hv2 : h2.1 ka = va_cpy (if t = 0 then h.1 kb else fun j => Int32.ofNat (q.getD j 0)) (h.1 ka) sp.toNatClampNeg dp.toNatClampNeg n.toNatClampNeg := by
                rw [← hh2]
                show (if ka = ka then _ else _) = _
                rw [if_pos rfl]
              have hF1 : sF reg [(reg ka, d, d + u - 1)] h h2 := by
                intro k j hne
                by_cases hk : k = ka
                · subst hk
                  refine ⟨_, List.mem_singleton.mpr rfl, rfl, ?_⟩
                  rw [hv2] at hne
                  by_cases hj : dp.toNatClampNeg ≤ j ∧ j < dp.toNatClampNeg + n.toNatClampNeg
                  · simp only
                    omega
                  · rw [pk_cpy_out (by omega)] at hne
                    exact absurd rfl hne
                · rw [hv1 k hk] at hne
                  exact absurd rfl hne
              refine ⟨(pc + 3, loc, r, h2), ?_, ?_, ?_, ?_⟩
              · simp only [zf6, ha, hta, htb, zar, zoA, zgd, decide_eq_true hsum, decide_eq_true c2, if_true]
                rw [if_pos (by apply decide_eq_true; omega), hh2]
              · intro k z hz j hj1 hj2
                by_cases hk : k = ka
                · subst hk
                  by_cases hj : dp.toNatClampNeg ≤ j ∧ j < dp.toNatClampNeg + n.toNatClampNeg
                  · rw [hv2, pk_cpy_in hj.1 hj.2]
                    have hgz := (List.all_eq_true.mp c9) z hz
                    simp only [Bool.or_eq_true, decide_eq_true_eq] at hgz
                    rcases hgz with g | g | g
                    · omega
                    · omega
                    · unfold scv at g
                      by_cases ht : t = 0
                      · rw [if_pos ht, Bool.and_eq_true, decide_eq_true_eq, decide_eq_true_eq] at g
                        rw [if_pos ht]
                        have hb : (sgb gG (reg kb) (max (z.1 : Int) d - d + s) (min (z.2.1 : Int) (d + u - 1) - d + s)).1 ≤ (h.1 kb (sp.toNatClampNeg + (j - dp.toNatClampNeg))).toInt ∧ (h.1 kb (sp.toNatClampNeg + (j - dp.toNatClampNeg))).toInt ≤ (sgb gG (reg kb) (max (z.1 : Int) d - d + s) (min (z.2.1 : Int) (d + u - 1) - d + s)).2 := by
                          unfold sgb
                          cases hg : (gG (reg kb)).find? (fun y => decide ((y.1 : Int) ≤ max (z.1 : Int) d - d + s) && decide (min (z.2.1 : Int) (d + u - 1) - d + s ≤ (y.2.1 : Int))) with
                          | none => exact si32 _
                          | some y =>
                            have hy := List.find?_some hg
                            simp only [Bool.and_eq_true, decide_eq_true_eq] at hy
                            exact hG kb y (List.mem_of_find?_eq_some hg) _ (by omega) (by omega)
                        omega
                      · rw [if_neg ht, List.all_eq_true] at g
                        rw [if_neg ht]
                        have g1 := g (sp.toNatClampNeg + (j - dp.toNatClampNeg)) (List.mem_range.mpr (by omega))
                        simp only [Bool.or_eq_true, Bool.and_eq_true, decide_eq_true_eq] at g1
                        rcases g1 with g1 | g1 | ⟨g1, g2, g3⟩
                        · omega
                        · omega
                        · have e0 : (Int32.ofNat (q.getD (sp.toNatClampNeg + (j - dp.toNatClampNeg)) 0)).toInt = ((q.getD (sp.toNatClampNeg + (j - dp.toNatClampNeg)) 0 : Nat) : Int) := so32 (n := ((q.getD (sp.toNatClampNeg + (j - dp.toNatClampNeg)) 0 : Nat) : Int)) (by omega) (by omega)
                          rw [e0]
                          exact ⟨g2, g3⟩
                  · rw [hv2, pk_cpy_out (by omega)]
                    exact hG k z hz j hj1 hj2
                · rw [hv1 k hk]
                  exact hG k z hz j hj1 hj2
              · intro k j hne
                by_cases hne2 : h2.1 k j = h.1 k j
                · rw [hne2] at hne
                  exact hF k j hne
                · obtain ⟨z1, hz1, a1, a2, a3⟩ := hF1 k j hne2
                  rw [List.mem_singleton] at hz1
                  subst hz1
                  obtain ⟨z, hz, hz2⟩ := List.any_eq_true.mp c10
                  simp only [Bool.and_eq_true, decide_eq_true_eq] at hz2
                  simp only at a1 a2 a3
                  exact ⟨z, hz, a1.trans hz2.1.symm, by omega, by omega⟩
              · exact ⟨_, List.mem_singleton.mpr rfl, ρ, rfl, sMt_stkQ (skl_okQ hgv hF1 hM) hr⟩
set_option maxHeartbeats 2000000 in
theorem s6_okQ (hcomp : ∀ k, rin (reg k) = smT reg (tab k)) (hgv : sGvQ reg gu gv) (hG : sG reg gG h) (hF : sF reg md h0 h) {i : Instr} {pc : Nat} {L : List (Nat × sS)} (hM : sMtQ reg gv ρ ρ0 S loc stk h) (hL : s6Q reg rin gG gu md gst kI ldS fldS acp i pc S = some L) : zf1 i pc loc stk h = none ∧ zf2 tab fld i pc loc stk h = none ∧ zf4 i pc loc stk h = none ∧ zf5 kI kL i pc loc stk h = none ∧ ∃ q, zf6 tab gst ldS fldS acp i pc loc stk h = some q ∧ sG reg gG q.2.2.2 ∧ sF reg md h0 q.2.2.2 ∧ sgoQ reg gv ρ0 L q := by
  have hs := hM.2.1
  cases i
  case getstatic idx =>
    refine ⟨rfl, rfl, rfl, rfl, ?_⟩
    simp only [s6Q] at hL
    cases hg : gst idx with
    | none => rw [hg] at hL; cases hL
    | some v =>
      rw [hg] at hL
      match v, hL, hg with
      | .inl x, hL, hg =>
        cases hL
        refine ⟨(pc + 3, loc, .inl x :: stk, h), ?_, hG, hF, _, List.mem_singleton.mpr rfl, ρ, rfl, sMt_stkQ hM ⟨(sK_v ..).symm, hs⟩⟩
        simp only [zf6, hg]
      | .inr (.inr k), hL, hg =>
        cases hL
        refine ⟨(pc + 3, loc, .inr (.inr k) :: stk, h), ?_, hG, hF, _, List.mem_singleton.mpr rfl, ρ, rfl, sMt_stkQ hM ⟨rfl, hs⟩⟩
        simp only [zf6, hg]
  case ldc idx =>
    simp only [s6Q] at hL
    cases hk : kI idx with
    | some v => rw [hk] at hL; cases hL
    | none =>
      cases hg : ldS idx with
      | none => rw [hk, hg] at hL; cases hL
      | some k =>
        rw [hk, hg] at hL
        cases hL
        refine ⟨rfl, rfl, rfl, ?_, (pc + 2, loc, .inr (.inr k) :: stk, h), ?_, hG, hF, _, List.mem_singleton.mpr rfl, ρ, rfl, sMt_stkQ hM ⟨rfl, hs⟩⟩
        · simp only [zf5, hk]
        · simp only [zf6, hg]
  case getfield idx =>
    simp only [s6Q] at hL
    match hst : S.2.1, hL, hs with
    | .inr (.inr r) :: rest, hL, hs =>
      obtain ⟨k, r1, rfl, rfl, e2⟩ := sms_r hs
      simp only at hL
      have hcase : ∃ v q, rin (reg k) = .inr (5, v, q) := by
        cases hrk : rin (reg k) with
        | inl z => rw [hrk] at hL; cases hL
        | inr z =>
          obtain ⟨t, v, q⟩ := z
          by_cases ht : t = 5
          · exact ⟨v, q, by rw [ht]⟩
          · rw [hrk] at hL
            exfalso
            revert hL
            split
            · rename_i h1 h2
              simp only [Sum.inr.injEq, Prod.mk.injEq] at h1
              omega
            · rename_i h1 h2
              simp only [Sum.inr.injEq, Prod.mk.injEq] at h1
              omega
            · intro hL; cases hL
      obtain ⟨v, q, hv⟩ := hcase
      have htab : ∃ v0, tab k = .inr (5, v0, q) ∧ v = reg v0 := by
        have hc := hcomp k
        rw [hv] at hc
        cases hk : tab k with
        | inl z => obtain ⟨a, b⟩ := z; rw [hk] at hc; cases hc
        | inr z =>
          obtain ⟨t, v0, q0⟩ := z
          rw [hk] at hc
          have hc := Sum.inr.inj hc
          have e1 : 5 = t := congrArg (·.1) hc
          have e2 := congrArg (·.2.1) hc
          have e3 := congrArg (·.2.2) hc
          simp only at e2 e3
          subst e1
          rw [if_pos rfl] at e2
          rw [if_neg (by omega)] at e3
          exact ⟨v0, by rw [e3], e2⟩
      obtain ⟨v0, ht, rfl⟩ := htab
      have hzar : zar tab k 5 = some (v0, q) := by
        unfold zar
        rw [ht]
        rfl
      refine ⟨rfl, ?_, rfl, rfl, ?_⟩
      · simp only [zf2, zoR1, zfo, ht, zoF]
      · rw [hv] at hL
        cases hf : fldS idx with
        | none => rw [hf] at hL; cases hL
        | some t =>
          rw [hf] at hL
          match t, hL, hf with
          | 0, hL, hf =>
            cases hL
            refine ⟨(pc + 3, loc, .inr (.inr v0) :: r1, h), ?_, hG, hF, _, List.mem_singleton.mpr rfl, ρ, rfl, sMt_stkQ hM ⟨rfl, e2⟩⟩
            simp only [zf6, zoR1, hzar, zoA, hf]
          | t + 1, hL, hf =>
            cases hL
            refine ⟨(pc + 3, loc, .inl 0 :: r1, h), ?_, hG, hF, _, List.mem_singleton.mpr rfl, ρ, rfl, sMt_stkQ hM ⟨(sK_v ..).symm, e2⟩⟩
            simp only [zf6, zoR1, hzar, zoA, hf]
  case iaload =>
    simp only [s6Q] at hL
    match hst : S.2.1, hL, hs with
    | .inl e :: .inr (.inr r) :: rest, hL, hs =>
      obtain ⟨x', r1, rfl, e1, e2⟩ := sms_i hs
      obtain ⟨k, r2, rfl, rfl, e3⟩ := sms_r e2
      simp only at hL
      cases hrk : rin (reg k) with
      | inl z => rw [hrk] at hL; cases hL
      | inr z =>
        obtain ⟨t, n, q⟩ := z
        rw [hrk] at hL
        split at hL
        case h_2 => cases hL
        case h_1 heq =>
          simp only [Sum.inr.injEq, Prod.mk.injEq] at heq
          obtain ⟨rfl, rfl, rfl⟩ := heq
          have ht := srow hcomp hrk (by omega) (by omega)
          split at hL
          case isFalse => cases hL
          case isTrue hc =>
            cases hL
            rw [Bool.and_eq_true] at hc
            obtain ⟨i1, i2, i3⟩ := sin_okQ hM hc.1 e1
            have hlt : x'.toNatClampNeg < n := by
              have := of_decide_eq_true i1
              show x'.toInt.toNat < n
              omega
            refine ⟨rfl, ?_, rfl, rfl, (pc + 1, loc, .inl (Int32.ofNat (q.getD x'.toNatClampNeg 0)) :: r2, h), ?_, hG, hF, ?_⟩
            · simp only [zf2, zoRI, zar, ht, zoA]
              rfl
            · simp only [zf6, zoRI, zar, ht, zoA, zgd, i1, if_true]
            · have hM2 : sMtQ reg gv ρ ρ0 (S.1, rest, S.2.2) loc r2 h := sMt_stkQ hM e3
              obtain ⟨T, q1, q2, -⟩ := sceq_okQ hM2 (d := sac e (-((x'.toNatClampNeg : Nat) : Int))) (by rw [sac_v, i3]; omega)
              refine ⟨(pc + 1, (T.1, .inl (sK (q.getD x'.toNatClampNeg 0)) :: T.2.1, T.2.2)), ?_, ρ, rfl, sMt_stkQ q2 ⟨?_, q2.2.1⟩⟩
              · refine List.mem_flatMap.mpr ⟨x'.toNatClampNeg, List.mem_range.mpr hlt, ?_⟩
                rw [q1]
                exact List.mem_singleton.mpr rfl
              · show (Int32.ofNat (q.getD x'.toNatClampNeg 0)).toInt = _
                rw [sK_v]
                have hle : q.getD x'.toNatClampNeg 0 ≤ 2147483647 := by
                  rw [List.getD_eq_getElem?_getD]
                  cases hq : q[x'.toNatClampNeg]? with
                  | none => exact Nat.zero_le _
                  | some y => exact of_decide_eq_true ((List.all_eq_true.mp hc.2) y (List.mem_of_getElem? hq))
                exact so32 (n := ((q.getD x'.toNatClampNeg 0 : Nat) : Int)) (by omega) (by omega)
  case baload =>
    simp only [s6Q] at hL
    match hst : S.2.1, hL, hs with
    | .inl e :: .inr (.inr r) :: rest, hL, hs =>
      obtain ⟨x', r1, rfl, e1, e2⟩ := sms_i hs
      obtain ⟨k, r2, rfl, rfl, e3⟩ := sms_r e2
      simp only at hL
      cases hrk : rin (reg k) with
      | inl z => rw [hrk] at hL; cases hL
      | inr z =>
        obtain ⟨t, n, q⟩ := z
        rw [hrk] at hL
        split at hL
        case h_2 => cases hL
        case h_1 heq =>
          simp only [Sum.inr.injEq, Prod.mk.injEq] at heq
          obtain ⟨rfl, rfl, rfl⟩ := heq
          have ht := srow hcomp hrk (by omega) (by omega)
          split at hL
          case isFalse => cases hL
          case isTrue hc =>
            simp only [Bool.and_eq_true, decide_eq_true_eq] at hc
            obtain ⟨hc1, hc2, hc3⟩ := hc
            obtain ⟨i1, i2, i3⟩ := sin_okQ hM hc1 e1
            have hlt : x'.toNatClampNeg < q.length := by
              have := of_decide_eq_true i1
              rw [hc2]
              show x'.toInt.toNat < n
              omega
            have hb := of_decide_eq_true ((List.all_eq_true.mp hc3) q[x'.toNatClampNeg] (List.getElem_mem hlt))
            have hg : q.getD x'.toNatClampNeg 0 = q[x'.toNatClampNeg] := by
              rw [List.getD_eq_getElem?_getD, List.getElem?_eq_getElem hlt]
              rfl
            refine ⟨rfl, ?_, rfl, rfl, (pc + 1, loc, .inl (Int32.ofNat (q.getD x'.toNatClampNeg 0)) :: r2, h), ?_, hG, hF, ?_⟩
            · simp only [zf2, zoRI, zar, ht, zoA]
              rfl
            · simp only [zf6, zoRI, zar, ht, zoA, zgd, i1, if_true]
            · refine spu_goQ (stk := .inl x' :: .inr (.inr k) :: r2) hL (fun e T ho => ?_)
              have e0 : (Int32.ofNat (q.getD x'.toNatClampNeg 0)).toInt = ((q.getD x'.toNatClampNeg 0 : Nat) : Int) := so32 (n := ((q.getD x'.toNatClampNeg 0 : Nat) : Int)) (by omega) (by omega)
              obtain ⟨ρ', a, b, -⟩ := sfr_okQ (x := (Int32.ofNat (q.getD x'.toNatClampNeg 0)).toInt) ho hM (by rw [e0]; omega) (by rw [e0]; omega)
              exact ⟨ρ', a, b.symm⟩
  case arraylength =>
    simp only [s6Q] at hL
    match hst : S.2.1, hL, hs with
    | .inr (.inr r) :: rest, hL, hs =>
      obtain ⟨k, r2, rfl, rfl, e3⟩ := sms_r hs
      simp only at hL
      cases hrk : rin (reg k) with
      | inl z => rw [hrk] at hL; cases hL
      | inr z =>
        obtain ⟨t, n, q⟩ := z
        rw [hrk] at hL
        simp only at hL
        split at hL
        case isFalse => cases hL
        case isTrue hc =>
          cases hL
          have ht := srow hcomp hrk (by omega) (by omega)
          refine ⟨rfl, ?_, rfl, rfl, (pc + 1, loc, .inl (Int32.ofNat n) :: r2, h), ?_, hG, hF, _, List.mem_singleton.mpr rfl, ρ, rfl, sMt_stkQ hM ⟨?_, e3⟩⟩
          · simp only [zf2, zoR1, ht, zgd]
            rw [if_neg (by rw [decide_eq_true_eq]; omega)]
          · simp only [zf6, zoR1, ht, zgd, decide_eq_true hc.1, if_true]
          · show (Int32.ofNat n).toInt = _
            rw [sK_v]
            exact so32 (n := (n : Int)) (by omega) (by omega)
  case i2b =>
    refine ⟨rfl, rfl, rfl, rfl, ?_⟩
    simp only [s6Q] at hL
    match hst : S.2.1, hL, hs with
    | .inl x :: r, hL, hs =>
      obtain ⟨x', r1, rfl, e1, e2⟩ := sms_i hs
      exact ⟨_, rfl, hG, hF, spu_goQ (stk := .inl x' :: r1) hL (fun e T ho => sk2 (α := Nat) (srg_okQ ho hM _ (fun h1 h2 => by rw [← e1]; exact si2b x' (by omega) (by omega))))⟩
  case invokestatic idx =>
    refine ⟨rfl, rfl, rfl, rfl, ?_⟩
    simp only [s6Q] at hL
    split at hL
    case isFalse => cases hL
    case isTrue ha =>
      match hst : S.2.1, hL, hs with
      | .inl n :: .inl dp :: .inr (.inr a) :: .inl sp :: .inr (.inr b) :: rest, hL, hs =>
        obtain ⟨n', r1, rfl, e1, f1⟩ := sms_i hs
        obtain ⟨d', r2, rfl, e2, f2⟩ := sms_i f1
        obtain ⟨ka, r3, rfl, rfl, f3⟩ := sms_r f2
        obtain ⟨s', r4, rfl, e4, f4⟩ := sms_i f3
        obtain ⟨kb, r5, rfl, rfl, f5⟩ := sms_r f4
        exact sac6_okQ hcomp hgv hG hF ha hM e1 e2 e4 f5 hL
  all_goals cases hL
end S6OK
