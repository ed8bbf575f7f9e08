/-! a step on expressions: places, switches, longs, constants -/
noncomputable def smT (reg : Nat → Nat) : (Nat × List Nat) ⊕ (Nat × Nat × List Nat) → (Nat × List Nat) ⊕ (Nat × Nat × List Nat)
  | .inl (ci, fk) => .inl (ci, fk.map (fun t => if t < 2 then t else reg (t - 2) + 2))
  | .inr (t, n, q) => .inr (t, if t = 5 then reg n else n, if t = 2 ∨ t = 3 then q.map reg else q)
noncomputable def sin (S : sS) (e : sE) (n : Nat) : Bool := spr S (sng e) && spr S (sac e (1 - (n : Int)))
noncomputable def sb01 (S : sS) (e : sE) : Bool := spr S (sng e) && spr S (sac e (-1))
section S2D
variable (rin : Nat → (Nat × List Nat) ⊕ (Nat × Nat × List Nat)) (sing : Nat → Bool) (gG : Nat → List (Nat × Nat × Int × Int)) (gu : Nat → sD) (md : sD) (fld : Nat → Option (Nat × Nat × Nat))
noncomputable def sst (S : sS) (r : Nat) (e v : sE) (rest : List sV) (n : Nat) : Option (List (Nat × sS)) := match sstr sing gG gu md S r e v with
  | some T => some [(n, (T.1, rest, T.2.2))]
  | none => none
noncomputable def s2 (i : Instr) (pc : Nat) (S : sS) : Option (List (Nat × sS)) := match i with
  | .getfield idx => (match S.2.1 with
    | .inr (.inr r) :: rest => (match zfo rin fld r idx with
      | some (fi, 0, _) => spu 1 (pc + 3) (sld sing gG S r (sK fi))
      | some (_, 1, _) => spl 1 (pc + 3) (sfl S)
      | some (_, t + 2, _) => some [(pc + 3, (S.1, .inr (.inr t) :: rest, S.2.2))]
      | none => none)
    | _ => none)
  | .putfield idx => (match S.2.1 with
    | .inl x :: .inr (.inr r) :: rest => (match zfo rin fld r idx with
      | some (fi, 0, b) => if (decide (b = 0) || (decide (b = 1) && sb01 S x)) = true then sst sing gG gu md S r (sK fi) x rest (pc + 3) else none
      | _ => none)
    | .inr (.inl _) :: .inr (.inr r) :: rest => (match zfo rin fld r idx with
      | some (_, 1, b) => if b = 2 then some [(pc + 3, (S.1, rest, S.2.2))] else none
      | _ => none)
    | _ => none)
  | .iaload => (match S.2.1 with
    | .inl e :: .inr (.inr r) :: _ => (match zar rin r 0 with
      | some (n, _) => if sin S e n = true then spu 2 (pc + 1) (sld sing gG S r e) else none
      | none => none)
    | _ => none)
  | .baload => (match S.2.1 with
    | .inl e :: .inr (.inr r) :: _ => (match zar rin r 1 with
      | some (n, _) => if sin S e n = true then spu 2 (pc + 1) (sld sing gG S r e) else none
      | none => none)
    | _ => none)
  | .aaload => (match S.2.1 with
    | .inl e :: .inr (.inr r) :: rest => (match rin r with
      | .inr (t, n, q) => if (decide (t = 2 ∨ t = 3) && (decide (q.length = n) && (sin S e n && q.all (fun g => g == q.headD 0)))) = true then some [(pc + 1, (S.1, .inr (.inr (q.headD 0)) :: rest, S.2.2))] else none
      | _ => none)
    | _ => none)
  | .iastore => (match S.2.1 with
    | .inl v :: .inl e :: .inr (.inr r) :: rest => (match zar rin r 0 with
      | some (n, _) => if sin S e n = true then sst sing gG gu md S r e v rest (pc + 1) else none
      | none => none)
    | _ => none)
  | .bastore => (match S.2.1 with
    | .inl v :: .inl e :: .inr (.inr r) :: rest => (match zar rin r 1 with
      | some (n, _) => if (sin S e n && sb01 S v) = true then sst sing gG gu md S r e v rest (pc + 1) else none
      | none => none)
    | _ => none)
  | .arraylength => (match S.2.1 with
    | .inr (.inr r) :: rest => (match rin r with
      | .inr (t, n, _) => if t ≤ 3 ∧ n ≤ 2147483647 then some [(pc + 1, (S.1, .inl (sK n) :: rest, S.2.2))] else none
      | _ => none)
    | _ => none)
  | _ => none
end S2D
noncomputable def slk (S : sS) (x : sE) (pc : Nat) (d : Int) : List (Int × Int) → Option (List (Nat × sS))
  | [] => if 0 ≤ (pc : Int) + d then some [(ztgt pc d, S)] else none
  | p :: r => if 0 ≤ (pc : Int) + p.2 then (match scne S (sac x (-p.1)) with
    | some T => (match slk T x pc d r with
      | some L => some ((sceq S (sac x (-p.1))).toList.map (fun T => (ztgt pc p.2, T)) ++ L)
      | none => none)
    | none => some ((sceq S (sac x (-p.1))).toList.map (fun T => (ztgt pc p.2, T)))) else none
noncomputable def stb (S : sS) (x : sE) (pc : Nat) : Int → List Int → Option (List (Nat × sS))
  | _, [] => some []
  | k, o :: r => if 0 ≤ (pc : Int) + o then (match stb S x pc (k + 1) r with
    | some L => some ((sceq S (sac x (-k))).toList.map (fun T => (ztgt pc o, T)) ++ L)
    | none => none) else none
noncomputable def s4 (i : Instr) (pc : Nat) (S : sS) : Option (List (Nat × sS)) := match i with
  | .lcmp => (match S.2.1 with
    | .inr (.inl y) :: .inr (.inl x) :: r => some (((scnd .lt (S.1, r, S.2.2) (sadd x y (-1))).toList.map (fun T => (pc + 1, (T.1, .inl (sK (-1)) :: T.2.1, T.2.2)))) ++ (((scnd .eq (S.1, r, S.2.2) (sadd x y (-1))).toList.map (fun T => (pc + 1, (T.1, .inl (sK 0) :: T.2.1, T.2.2)))) ++ ((scnd .gt (S.1, r, S.2.2) (sadd x y (-1))).toList.map (fun T => (pc + 1, (T.1, .inl (sK 1) :: T.2.1, T.2.2))))))
    | _ => none)
  | .ldiv => (match S.2.1 with
    | .inr (.inl y) :: .inr (.inl x) :: _ => if snz S y = true then spl 2 (pc + 1) (sdv S x y (-9223372036854775808) 9223372036854775807) else none
    | _ => none)
  | .lrem => (match S.2.1 with
    | .inr (.inl y) :: .inr (.inl x) :: _ => if snz S y = true then spl 2 (pc + 1) (srm S x y (-9223372036854775808) 9223372036854775807) else none
    | _ => none)
  | .lushr => (match S.2.1 with
    | .inl y :: .inr (.inl _) :: _ => if sCo y = some 33 then spl 2 (pc + 1) (sfr 0 2147483647 S []) else none
    | _ => none)
  | .lshl => (match S.2.1 with
    | .inl _ :: .inr (.inl _) :: _ => spl 2 (pc + 1) (sfl S)
    | _ => none)
  | .tableswitch d lo hi offs => (match S.2.1 with
    | .inl x :: r => if 0 ≤ (pc : Int) + d ∧ hi - lo + 1 ≤ (offs.size : Int) then (match stb (S.1, r, S.2.2) x pc lo offs.toList with
      | some L => some (((sas (S.1, r, S.2.2) (sac x (1 - lo))).toList.map (fun T => (ztgt pc d, T))) ++ (((sas (S.1, r, S.2.2) (sac (sng x) (hi + 1))).toList.map (fun T => (ztgt pc d, T))) ++ L))
      | none => none) else none
    | _ => none)
  | .lookupswitch d ps => (match S.2.1 with
    | .inl x :: r => if ((ps.toList.zip (ps.toList.drop 1)).all (fun (a, next) => a.1 < next.1)) = true then slk (S.1, r, S.2.2) x pc d ps.toList else none
    | _ => none)
  | _ => none
noncomputable def s5 (kI : Nat → Option Int32) (kL : Nat → Option Int64) (i : Instr) (pc : Nat) (S : sS) : Option (List (Nat × sS)) := match i with
  | .ldc x => (match kI x with
    | some v => some [(pc + 2, (S.1, .inl (sK v.toInt) :: S.2.1, S.2.2))]
    | none => none)
  | .ldc_w x => (match kI x with
    | some v => some [(pc + 3, (S.1, .inl (sK v.toInt) :: S.2.1, S.2.2))]
    | none => none)
  | .ldc2_w x => (match kL x with
    | some v => some [(pc + 3, (S.1, .inr (.inl (sK v.toInt)) :: S.2.1, S.2.2))]
    | none => none)
  | _ => none
section S2OK
variable {tab rin : Nat → (Nat × List Nat) ⊕ (Nat × Nat × List Nat)} {reg : Nat → Nat} {sing : Nat → Bool} {gG : Nat → List (Nat × Nat × Int × Int)} {gu : Nat → sD} {md : sD} {fld : Nat → Option (Nat × Nat × Nat)} {gv : Nat → zH → Int} {ρ ρ0 : Nat → Int} {S T : sS} {loc : zL} {stk : List zV} {h h0 : zH} {e : sE}
theorem sfo_ok (hcomp : ∀ k, rin (reg k) = smT reg (tab k)) {k idx fi t' b : Nat} (hf : zfo rin fld (reg k) idx = some (fi, t', b)) : ∃ t, zfo tab fld k idx = some (fi, t, b) ∧ t' = (if t < 2 then t else reg (t - 2) + 2) := by
  obtain ⟨ci, fk, h1, h2, h3⟩ := zfo_el hf
  rw [hcomp k] at h1
  cases ht : tab k with
  | inr z => obtain ⟨a, b2, c⟩ := z; rw [ht] at h1; cases h1
  | inl z =>
    obtain ⟨cj, fk2⟩ := z
    rw [ht] at h1
    cases h1
    rw [List.getElem?_map] at h3
    cases hk : fk2[fi]? with
    | none => rw [hk] at h3; cases h3
    | some t =>
      rw [hk] at h3
      refine ⟨t, ?_, (Option.some.inj h3).symm⟩
      unfold zfo
      rw [ht, h2]
      simp only [if_true, hk]
theorem sar_ok (hcomp : ∀ k, rin (reg k) = smT reg (tab k)) {k t0 n : Nat} {q : List Nat} (h5 : t0 ≠ 5) (h2 : t0 ≠ 2) (h3 : t0 ≠ 3) (hf : zar rin (reg k) t0 = some (n, q)) : zar tab k t0 = some (n, q) ∧ tab k = .inr (t0, n, q) := by
  have h1 := zar_el hf
  rw [hcomp k] at h1
  cases ht : tab k with
  | inl z => obtain ⟨a, b⟩ := z; rw [ht] at h1; cases h1
  | inr z =>
    obtain ⟨t, n2, q2⟩ := z
    rw [ht] at h1
    have h1 := Sum.inr.inj h1
    have e1 : t = t0 := congrArg (·.1) h1
    have e2 := congrArg (·.2.1) h1
    have e3 := congrArg (·.2.2) h1
    simp only at e2 e3
    subst e1
    rw [if_neg h5] at e2
    rw [if_neg (by omega)] at e3
    subst e2 e3
    refine ⟨?_, rfl⟩
    unfold zar
    rw [ht]
    simp
theorem sin_ok {n : Nat} {x : Int32} (hM : sMt reg gv ρ ρ0 S loc stk h) (hi : sin S e n = true) (hx : x.toInt = sv ρ e) : zin x n = true ∧ 0 ≤ sv ρ e ∧ x.toNatClampNeg = (sv ρ e).toNat := by
  unfold sin at hi
  rw [Bool.and_eq_true] at hi
  have h1 := spr_le hM hi.1
  have h2 := spr_le hM hi.2
  rw [sng_v] at h1
  rw [sac_v] at h2
  refine ⟨decide_eq_true ⟨by omega, by omega⟩, by omega, ?_⟩
  show x.toInt.toNat = _
  rw [hx]
theorem sb01_ok {x : Int32} (hM : sMt reg gv ρ ρ0 S loc stk h) (hi : sb01 S e = true) (hx : x.toInt = sv ρ e) : x = 0 ∨ x = 1 := by
  unfold sb01 at hi
  rw [Bool.and_eq_true] at hi
  have h1 := spr_le hM hi.1
  have h2 := spr_le hM hi.2
  rw [sng_v] at h1
  rw [sac_v] at h2
  have : x.toInt = 0 ∨ x.toInt = 1 := by omega
  rcases this with q | q
  · exact Or.inl (Int32.toInt_inj.mp q)
  · exact Or.inr (Int32.toInt_inj.mp q)
theorem sst_ok (hsing : ∀ k k', sing (reg k) = true → reg k' = reg k → k' = k) (hr : ∀ k, reg k < 1000) (hgv : sGv reg gu gv) (hG : sG reg gG h) (hF : sF reg md h0 h) (hM : sMt reg gv ρ ρ0 S loc stk h) {k n : Nat} {v : sE} {x : Int32} {rest : List sV} {stk' : List zV} {L : List (Nat × sS)} (he : 0 ≤ sv ρ e) (hx : x.toInt = sv ρ v) (hs : sms reg ρ stk' rest) (hL : sst sing gG gu md S (reg k) e v rest n = some L) : sG reg gG (zs h k (sv ρ e).toNat x) ∧ sF reg md h0 (zs h k (sv ρ e).toNat x) ∧ sgo reg gv ρ0 L (n, loc, stk', zs h k (sv ρ e).toNat x) := by
  unfold sst at hL
  cases hq : sstr sing gG gu md S (reg k) e v with
  | none => rw [hq] at hL; cases hL
  | some T =>
    rw [hq] at hL
    cases hL
    obtain ⟨a, b, c, -⟩ := sstr_ok hsing hgv hG hF hM (hr k) he hx hq
    exact ⟨b, c, _, List.mem_singleton.mpr rfl, ρ, rfl, sMt_stk a hs⟩
theorem szsl {x : Int64} {k : Nat} (hgv : sGv reg gu gv) (hG : sG reg gG h) (hF : sF reg md h0 h) (hM : sMt reg gv ρ ρ0 S loc stk h) : sG reg gG (zsl h k x) ∧ sF reg md h0 (zsl h k x) ∧ sMt reg gv ρ ρ0 S loc stk (zsl h k x) := by
  refine ⟨hG, hF, hM.1, hM.2.1, ?_, hM.2.2.2⟩
  intro m hm
  have q := hM.2.2.1 m hm
  unfold smm at q ⊢
  by_cases hr : m.1 < 1000
  · rw [if_pos hr] at q ⊢
    exact q
  · rw [if_neg hr] at q ⊢
    rw [← q]
    exact hgv _ _ _ (fun _ _ _ => rfl)
set_option maxHeartbeats 2000000 in
theorem s2_ok (hcomp : ∀ k, rin (reg k) = smT reg (tab k)) (hsing : ∀ k k', sing (reg k) = true → reg k' = reg k → k' = k) (hr : ∀ k, reg k < 1000) (hgv : sGv reg gu gv) (hG : sG reg gG h) (hF : sF reg md h0 h) {i : Instr} {pc : Nat} {L : List (Nat × sS)} (hM : sMt reg gv ρ ρ0 S loc stk h) (hL : s2 rin sing gG gu md fld i pc S = some L) : ∃ q, zf2 tab fld i pc loc stk h = some q ∧ sG reg gG q.2.2.2 ∧ sF reg md h0 q.2.2.2 ∧ sgo reg gv ρ0 L q := by
  have hs := hM.2.1
  cases i
  case getfield idx =>
    simp only [s2] at hL
    match hst : S.2.1, hL, hs with
    | .inr (.inr r) :: rest, hL, hs =>
      obtain ⟨k, r1, rfl, rfl, e2⟩ := sms_r hs
      simp only at hL
      cases hfo : zfo rin fld (reg k) idx with
      | none => rw [hfo] at hL; cases hL
      | some z =>
        obtain ⟨fi, t', b⟩ := z
        obtain ⟨t, ht, htt⟩ := sfo_ok hcomp hfo
        rw [hfo] at hL
        have hz : zf2 tab fld (.getfield idx) pc loc (.inr (.inr k) :: r1) h = some (pc + 3, loc, zfa h k fi t :: r1, h) := by
          simp only [zf2, zoR1, ht, zoF]
        match t, htt with
        | 0, htt =>
          subst htt
          refine ⟨_, hz, hG, hF, ?_⟩
          exact spu_go (stk := .inr (.inr k) :: r1) (z := h.1 k fi) hL (fun e T ho => by
            obtain ⟨ρ', a, b, -⟩ := sld_ok hsing hG hM (hr k) (e := sK fi) (by rw [sK_v]; omega) ho
            rw [sK_v] at b
            exact ⟨ρ', a, b⟩)
        | 1, htt =>
          subst htt
          exact ⟨_, hz, hG, hF, spl_go (stk := .inr (.inr k) :: r1) (z := h.2 k) hL (fun e T ho => sk2 (α := Nat) (sfl_ok ho hM _))⟩
        | j + 2, htt =>
          rw [if_neg (by omega)] at htt
          subst htt
          cases hL
          exact ⟨_, hz, hG, hF, _, List.mem_singleton.mpr rfl, ρ, rfl, sMt_stk hM ⟨rfl, e2⟩⟩
  case putfield idx =>
    simp only [s2] at hL
    match hst : S.2.1, hL, hs with
    | .inl x :: .inr (.inr r) :: rest, hL, hs =>
      obtain ⟨x', r1, rfl, e1, e2⟩ := sms_i hs
      obtain ⟨k, r2, rfl, rfl, e3⟩ := sms_r e2
      simp only at hL
      cases hfo : zfo rin fld (reg k) idx with
      | none => rw [hfo] at hL; cases hL
      | some z =>
        obtain ⟨fi, t', b⟩ := z
        obtain ⟨t, ht, htt⟩ := sfo_ok hcomp hfo
        rw [hfo] at hL
        match t', hL, htt with
        | 0, hL, htt =>
          have ht0 : t = 0 := by
            by_cases h2 : t < 2
            · rw [if_pos h2] at htt; exact htt.symm
            · rw [if_neg h2] at htt; cases htt
          subst ht0
          simp only at hL
          split at hL
          case isFalse => cases hL
          case isTrue q =>
            simp only [Bool.or_eq_true, Bool.and_eq_true, decide_eq_true_eq] at q
            have hb : zbit b x' = true := by
              unfold zbit
              simp only [Bool.or_eq_true, Bool.and_eq_true, decide_eq_true_eq]
              rcases q with q | q
              · exact ⟨by omega, Or.inl q⟩
              · exact ⟨by omega, Or.inr (sb01_ok hM q.2 e1)⟩
            have hh := sst_ok hsing hr hgv hG hF hM (e := sK fi) (by rw [sK_v]; omega) e1 e3 hL
            rw [sK_v] at hh
            refine ⟨(pc + 3, loc, r2, zs h k fi x'), ?_, hh.1, hh.2.1, hh.2.2⟩
            simp only [zf2, ht, zoF, zgd, hb]
            rfl
    | .inr (.inl x) :: .inr (.inr r) :: rest, hL, hs =>
      obtain ⟨x', r1, rfl, e1, e2⟩ := sms_l hs
      obtain ⟨k, r2, rfl, rfl, e3⟩ := sms_r e2
      simp only at hL
      cases hfo : zfo rin fld (reg k) idx with
      | none => rw [hfo] at hL; cases hL
      | some z =>
        obtain ⟨fi, t', b⟩ := z
        obtain ⟨t, ht, htt⟩ := sfo_ok hcomp hfo
        rw [hfo] at hL
        match t', hL, htt with
        | 1, hL, htt =>
          have ht0 : t = 1 := by
            by_cases h2 : t < 2
            · rw [if_pos h2] at htt; exact htt.symm
            · rw [if_neg h2] at htt; omega
          subst ht0
          simp only at hL
          split at hL
          case isFalse => cases hL
          case isTrue q =>
            cases hL
            obtain ⟨a, b2, c⟩ := szsl (k := k) (x := x') hgv hG hF hM
            refine ⟨(pc + 3, loc, r2, zsl h k x'), ?_, a, b2, _, List.mem_singleton.mpr rfl, ρ, rfl, sMt_stk c e3⟩
            simp only [zf2, ht, zoF, zgd, q]
            rfl
  case iaload =>
    simp only [s2] at hL
    match hst : S.2.1, hL, hs with
    | .inl e :: .inr (.inr r) :: rest, hL, hs =>
      obtain ⟨x', r1, rfl, e1, e2⟩ := sms_i hs
      obtain ⟨k, r2, rfl, rfl, e3⟩ := sms_r e2
      simp only at hL
      cases hz : zar rin (reg k) 0 with
      | none => rw [hz] at hL; cases hL
      | some z =>
        obtain ⟨n, q⟩ := z
        rw [hz] at hL
        obtain ⟨hz2, -⟩ := sar_ok hcomp (by decide) (by decide) (by decide) hz
        simp only at hL
        split at hL
        case isFalse => cases hL
        case isTrue hi =>
          obtain ⟨i1, i2, i3⟩ := sin_ok hM hi e1
          refine ⟨(pc + 1, loc, .inl (h.1 k x'.toNatClampNeg) :: r2, h), ?_, hG, hF, ?_⟩
          · simp only [zf2, zoRI, hz2, zoA, zgd, i1]
            rfl
          · exact spu_go (stk := .inl x' :: .inr (.inr k) :: r2) hL (fun e T ho => by
              obtain ⟨ρ', a, b, -⟩ := sld_ok hsing hG hM (hr k) i2 ho
              rw [i3]
              exact ⟨ρ', a, b⟩)
  case baload =>
    simp only [s2] at hL
    match hst : S.2.1, hL, hs with
    | .inl e :: .inr (.inr r) :: rest, hL, hs =>
      obtain ⟨x', r1, rfl, e1, e2⟩ := sms_i hs
      obtain ⟨k, r2, rfl, rfl, e3⟩ := sms_r e2
      simp only at hL
      cases hz : zar rin (reg k) 1 with
      | none => rw [hz] at hL; cases hL
      | some z =>
        obtain ⟨n, q⟩ := z
        rw [hz] at hL
        obtain ⟨hz2, -⟩ := sar_ok hcomp (by decide) (by decide) (by decide) hz
        simp only at hL
        split at hL
        case isFalse => cases hL
        case isTrue hi =>
          obtain ⟨i1, i2, i3⟩ := sin_ok hM hi e1
          refine ⟨(pc + 1, loc, .inl (h.1 k x'.toNatClampNeg) :: r2, h), ?_, hG, hF, ?_⟩
          · simp only [zf2, zoRI, hz2, zoA, zgd, i1]
            rfl
          · exact spu_go (stk := .inl x' :: .inr (.inr k) :: r2) hL (fun e T ho => by
              obtain ⟨ρ', a, b, -⟩ := sld_ok hsing hG hM (hr k) i2 ho
              rw [i3]
              exact ⟨ρ', a, b⟩)
  case aaload =>
    simp only [s2] at hL
    match hst : S.2.1, hL, hs with
    | .inl e :: .inr (.inr r) :: rest, hL, hs =>
      obtain ⟨x', r1, rfl, e1, e2⟩ := sms_i hs
      obtain ⟨k, r2, rfl, rfl, e3⟩ := sms_r e2
      simp only at hL
      cases ht : tab k with
      | inl z => obtain ⟨a, b⟩ := z; rw [hcomp k, ht] at hL; cases hL
      | inr z =>
        obtain ⟨t, n, q⟩ := z
        rw [hcomp k, ht] at hL
        simp only [smT] at hL
        by_cases c0 : t = 2 ∨ t = 3
        case neg =>
          rw [decide_eq_false c0, Bool.false_and] at hL
          cases hL
        case pos =>
        have h5 : ¬ t = 5 := by omega
        simp only [if_neg h5, if_pos c0] at hL
        split at hL
        case isFalse => cases hL
        case isTrue hc =>
          simp only [Bool.and_eq_true, decide_eq_true_eq] at hc
          obtain ⟨c1, c2, c3, c4⟩ := hc
          cases hL
          obtain ⟨i1, i2, i3⟩ := sin_ok hM c3 e1
          have hlt : x'.toNatClampNeg < q.length := by
            have := of_decide_eq_true i1
            rw [List.length_map] at c2
            rw [c2]
            show x'.toInt.toNat < n
            omega
          have hget : q[x'.toNatClampNeg]? = some q[x'.toNatClampNeg] := List.getElem?_eq_getElem hlt
          refine ⟨(pc + 1, loc, .inr (.inr q[x'.toNatClampNeg]) :: r2, h), ?_, hG, hF, _, List.mem_singleton.mpr rfl, ρ, rfl, sMt_stk hM ⟨?_, e3⟩⟩
          · simp only [zf2, zoRI, ht, zgd, i1, decide_eq_true c1, hget]
            rfl
          · rw [List.all_eq_true] at c4
            have := c4 (reg q[x'.toNatClampNeg]) (List.mem_map.mpr ⟨_, List.getElem_mem hlt, rfl⟩)
            exact eq_of_beq this
  case iastore =>
    simp only [s2] at hL
    match hst : S.2.1, hL, hs with
    | .inl v :: .inl e :: .inr (.inr r) :: rest, hL, hs =>
      obtain ⟨v', r0, rfl, e0, ev⟩ := sms_i hs
      obtain ⟨x', r1, rfl, e1, e2⟩ := sms_i ev
      obtain ⟨k, r2, rfl, rfl, e3⟩ := sms_r e2
      simp only at hL
      cases hz : zar rin (reg k) 0 with
      | none => rw [hz] at hL; cases hL
      | some z =>
        obtain ⟨n, q⟩ := z
        rw [hz] at hL
        obtain ⟨hz2, -⟩ := sar_ok hcomp (by decide) (by decide) (by decide) hz
        simp only at hL
        split at hL
        case isFalse => cases hL
        case isTrue hi =>
          obtain ⟨i1, i2, i3⟩ := sin_ok hM hi e1
          have hh := sst_ok hsing hr hgv hG hF hM i2 e0 e3 hL
          rw [← i3] at hh
          refine ⟨(pc + 1, loc, r2, zs h k x'.toNatClampNeg v'), ?_, hh.1, hh.2.1, hh.2.2⟩
          simp only [zf2, zoRII, hz2, zoA, zgd, i1]
          rfl
  case bastore =>
    simp only [s2] at hL
    match hst : S.2.1, hL, hs with
    | .inl v :: .inl e :: .inr (.inr r) :: rest, hL, hs =>
      obtain ⟨v', r0, rfl, e0, ev⟩ := sms_i hs
      obtain ⟨x', r1, rfl, e1, e2⟩ := sms_i ev
      obtain ⟨k, r2, rfl, rfl, e3⟩ := sms_r e2
      simp only at hL
      cases hz : zar rin (reg k) 1 with
      | none => rw [hz] at hL; cases hL
      | some z =>
        obtain ⟨n, q⟩ := z
        rw [hz] at hL
        obtain ⟨hz2, -⟩ := sar_ok hcomp (by decide) (by decide) (by decide) hz
        simp only at hL
        split at hL
        case isFalse => cases hL
        case isTrue hi =>
          rw [Bool.and_eq_true] at hi
          obtain ⟨i1, i2, i3⟩ := sin_ok hM hi.1 e1
          have hv := sb01_ok hM hi.2 e0
          have hh := sst_ok hsing hr hgv hG hF hM i2 e0 e3 hL
          rw [← i3] at hh
          refine ⟨(pc + 1, loc, r2, zs h k x'.toNatClampNeg v'), ?_, hh.1, hh.2.1, hh.2.2⟩
          simp only [zf2, zoRII, hz2, zoA, zgd, i1, decide_eq_true hv]
          rfl
  case arraylength =>
    simp only [s2] at hL
    match hst : S.2.1, hL, hs with
    | .inr (.inr r) :: rest, hL, hs =>
      obtain ⟨k, r2, rfl, rfl, e3⟩ := sms_r hs
      simp only at hL
      cases ht : tab k with
      | inl z => obtain ⟨a, b⟩ := z; rw [hcomp k, ht] at hL; cases hL
      | inr z =>
        obtain ⟨t, n, q⟩ := z
        rw [hcomp k, ht] at hL
        simp only [smT] at hL
        by_cases h5 : t = 5
        case pos =>
          rw [if_neg (by omega)] at hL
          cases hL
        case neg =>
        simp only [if_neg h5] at hL
        split at hL
        case isFalse => cases hL
        case isTrue hc =>
          cases hL
          refine ⟨(pc + 1, loc, .inl (Int32.ofNat n) :: r2, h), ?_, hG, hF, _, List.mem_singleton.mpr rfl, ρ, rfl, sMt_stk hM ⟨?_, e3⟩⟩
          · simp only [zf2, zoR1, ht, zgd, decide_eq_true hc.1]
            rfl
          · show (Int32.ofNat n).toInt = _
            rw [sK_v]
            exact so32 (n := (n : Int)) (by omega) (by omega)
  all_goals cases hL
theorem slk_ok {x : sE} {pc : Nat} {d : Int} : ∀ {l : List (Int × Int)} {S : sS} {L : List (Nat × sS)}, sMt reg gv ρ ρ0 S loc stk h → slk S x pc d l = some L → 0 ≤ (pc : Int) + Op.lookupswitch.offset l d (sv ρ x) ∧ sgo reg gv ρ0 L (ztgt pc (Op.lookupswitch.offset l d (sv ρ x)), loc, stk, h)
  | [], S, L, hM, hL => by
    simp only [slk] at hL
    split at hL
    case isFalse => cases hL
    case isTrue q =>
      cases hL
      exact ⟨q, _, List.mem_singleton.mpr rfl, ρ, rfl, hM⟩
  | p :: r, S, L, hM, hL => by
    simp only [slk] at hL
    split at hL
    case isFalse => cases hL
    case isTrue q =>
      obtain ⟨a, o⟩ := p
      rw [Op.lookupswitch.offset_cons]
      by_cases ha : a = sv ρ x
      · rw [if_pos ha]
        refine ⟨q, ?_⟩
        obtain ⟨S', e1, e2, -⟩ := sceq_ok hM (d := sac x (-a)) (by rw [sac_v]; omega)
        have hin : (ztgt pc o, S') ∈ L := by
          simp only [e1] at hL
          split at hL
          · split at hL
            · cases hL
              exact List.mem_append_left _ (List.mem_singleton.mpr rfl)
            · cases hL
          · cases hL
            exact List.mem_singleton.mpr rfl
        exact ⟨_, hin, ρ, rfl, e2⟩
      · rw [if_neg ha]
        obtain ⟨S', e1, e2, -⟩ := scne_ok hM (d := sac x (-a)) (by rw [sac_v]; omega)
        rw [e1] at hL
        simp only at hL
        cases hk : slk S' x pc d r with
        | none => rw [hk] at hL; cases hL
        | some L2 =>
          rw [hk] at hL
          cases hL
          obtain ⟨a1, z, hz, b1⟩ := slk_ok e2 hk
          exact ⟨a1, z, List.mem_append_right _ hz, b1⟩
theorem stb_ok {x : sE} {pc : Nat} (hM : sMt reg gv ρ ρ0 S loc stk h) : ∀ {l : List Int} {k : Int} {L : List (Nat × sS)} {j : Nat} {o : Int}, stb S x pc k l = some L → l[j]? = some o → sv ρ x = k + j → 0 ≤ (pc : Int) + o ∧ sgo reg gv ρ0 L (ztgt pc o, loc, stk, h)
  | [], _, _, j, _, _, ho, _ => by cases ho
  | o1 :: r, k, L, j, o, hL, ho, hx => by
    simp only [stb] at hL
    split at hL
    case isFalse => cases hL
    case isTrue q =>
      cases hk : stb S x pc (k + 1) r with
      | none => rw [hk] at hL; cases hL
      | some L2 =>
        rw [hk] at hL
        cases hL
        match j, ho, hx with
        | 0, ho, hx =>
          cases ho
          obtain ⟨S', e1, e2, -⟩ := sceq_ok hM (d := sac x (-k)) (by rw [sac_v]; omega)
          refine ⟨q, (ztgt pc o1, S'), ?_, ρ, rfl, e2⟩
          rw [e1]
          exact List.mem_append_left _ (List.mem_singleton.mpr rfl)
        | j + 1, ho, hx =>
          obtain ⟨a1, z, hz, b1⟩ := stb_ok hM hk (show r[j]? = some o from ho) (by omega)
          exact ⟨a1, z, List.mem_append_right _ hz, b1⟩
set_option maxHeartbeats 2000000 in
theorem s4_ok {i : Instr} {pc : Nat} {L : List (Nat × sS)} (hM : sMt reg gv ρ ρ0 S loc stk h) (hL : s4 i pc S = some L) : ∃ q, zf4 i pc loc stk h = some q ∧ q.2.2.2 = h ∧ sgo reg gv ρ0 L q := by
  have hs := hM.2.1
  cases i
  case lcmp =>
    simp only [s4] at hL
    match hst : S.2.1, hL, hs with
    | .inr (.inl y) :: .inr (.inl x) :: r, hL, hs =>
      obtain ⟨y', r1, rfl, e1, e2⟩ := sms_l hs
      obtain ⟨x', r2, rfl, e3, e4⟩ := sms_l e2
      cases hL
      refine ⟨_, rfl, rfl, ?_⟩
      have hM2 : sMt reg gv ρ ρ0 (S.1, r, S.2.2) loc r2 h := sMt_stk hM e4
      have he : sv ρ (sadd x y (-1)) = x'.toInt - y'.toInt := by rw [sadd_v, e1, e3]; omega
      have hc := scmp64 x' y'
      by_cases h1 : x'.toInt < y'.toInt
      · rw [if_pos h1] at hc
        obtain ⟨S', q1, q2, q3⟩ := scnd_ok .lt hM2 (d := sadd x y (-1)) (by rw [he]; show _ < _; omega)
        refine ⟨(pc + 1, (S'.1, .inl (sK (-1)) :: S'.2.1, S'.2.2)), ?_, ρ, rfl, sMt_stk q2 ⟨by show (lg_cmp x' y').toInt = _; rw [hc, sK_v], q2.2.1⟩⟩
        rw [q1]
        exact List.mem_append_left _ (List.mem_singleton.mpr rfl)
      · rw [if_neg h1] at hc
        by_cases h2 : x'.toInt = y'.toInt
        · rw [if_pos h2] at hc
          obtain ⟨S', q1, q2, q3⟩ := scnd_ok .eq hM2 (d := sadd x y (-1)) (by rw [he]; show _ = _; omega)
          refine ⟨(pc + 1, (S'.1, .inl (sK 0) :: S'.2.1, S'.2.2)), ?_, ρ, rfl, sMt_stk q2 ⟨by show (lg_cmp x' y').toInt = _; rw [hc, sK_v], q2.2.1⟩⟩
          rw [q1]
          exact List.mem_append_right _ (List.mem_append_left _ (List.mem_singleton.mpr rfl))
        · rw [if_neg h2] at hc
          obtain ⟨S', q1, q2, q3⟩ := scnd_ok .gt hM2 (d := sadd x y (-1)) (by rw [he]; show _ < _; omega)
          refine ⟨(pc + 1, (S'.1, .inl (sK 1) :: S'.2.1, S'.2.2)), ?_, ρ, rfl, sMt_stk q2 ⟨by show (lg_cmp x' y').toInt = _; rw [hc, sK_v], q2.2.1⟩⟩
          rw [q1]
          exact List.mem_append_right _ (List.mem_append_right _ (List.mem_singleton.mpr rfl))
  case ldiv =>
    simp only [s4] at hL
    match hst : S.2.1, hL, hs with
    | .inr (.inl ey) :: .inr (.inl ex) :: r, hL, hs =>
      obtain ⟨y, r1, rfl, e1, e2⟩ := sms_l hs
      obtain ⟨x, r2, rfl, e3, e4⟩ := sms_l e2
      simp only at hL
      split at hL
      case isFalse => cases hL
      case isTrue hn =>
        have hnz := snz_ok hM hn
        rw [← e1] at hnz
        refine ⟨(pc + 1, loc, .inr (.inl (x / y)) :: r2, h), ?_, rfl, spl_go (stk := .inr (.inl y) :: .inr (.inl x) :: r2) hL (fun e T ho => sk2 (α := Nat) (sdv_ok ho hM (si64 (x / y)).1 (si64 (x / y)).2 (fun h1 h2 => by rw [sdiv64 x y (by omega) (by omega), e3, e1])))⟩
        simp only [zf4, zoL2, zgd]
        rw [if_pos (decide_eq_true (sn0L hnz))]
  case lrem =>
    simp only [s4] at hL
    match hst : S.2.1, hL, hs with
    | .inr (.inl ey) :: .inr (.inl ex) :: r, hL, hs =>
      obtain ⟨y, r1, rfl, e1, e2⟩ := sms_l hs
      obtain ⟨x, r2, rfl, e3, e4⟩ := sms_l e2
      simp only at hL
      split at hL
      case isFalse => cases hL
      case isTrue hn =>
        have hnz := snz_ok hM hn
        rw [← e1] at hnz
        refine ⟨(pc + 1, loc, .inr (.inl (x - x / y * y)) :: r2, h), ?_, rfl, spl_go (stk := .inr (.inl y) :: .inr (.inl x) :: r2) hL (fun e T ho => sk2 (α := Nat) (srm_ok ho hM (si64 (x - x / y * y)).1 (si64 (x - x / y * y)).2 (fun h1 h2 => by rw [srem64 x y (by omega) (by omega), e3, e1])))⟩
        simp only [zf4, zoL2, zgd]
        rw [if_pos (decide_eq_true (sn0L hnz))]
  case lushr =>
    simp only [s4] at hL
    match hst : S.2.1, hL, hs with
    | .inl ey :: .inr (.inl ex) :: r, hL, hs =>
      obtain ⟨y, r1, rfl, e1, e2⟩ := sms_i hs
      obtain ⟨x, r2, rfl, e3, e4⟩ := sms_l e2
      simp only at hL
      split at hL
      case isFalse => cases hL
      case isTrue hn =>
        have hn := sCo_v (ρ := ρ) hn
        have hy : y = 33 := Int32.toInt_inj.mp (by rw [e1, hn]; rfl)
        subst hy
        refine ⟨_, rfl, rfl, spl_go (stk := .inl 33 :: .inr (.inl x) :: r2) hL (fun e T ho => ?_)⟩
        have hb := sshr33 x
        obtain ⟨ρ', a, b, -⟩ := sfr_ok ho hM hb.1 hb.2
        exact ⟨ρ', a, b.symm⟩
  case lshl =>
    simp only [s4] at hL
    match hst : S.2.1, hL, hs with
    | .inl ey :: .inr (.inl ex) :: r, hL, hs =>
      obtain ⟨y, r1, rfl, e1, e2⟩ := sms_i hs
      obtain ⟨x, r2, rfl, e3, e4⟩ := sms_l e2
      exact ⟨_, rfl, rfl, spl_go (stk := .inl y :: .inr (.inl x) :: r2) hL (fun e T ho => sk2 (α := Nat) (sfl_ok ho hM _))⟩
  case tableswitch d lo hi offs =>
    simp only [s4] at hL
    match hst : S.2.1, hL, hs with
    | .inl x :: r, hL, hs =>
      obtain ⟨x', r1, rfl, e1, e2⟩ := sms_i hs
      simp only at hL
      split at hL
      case isFalse => cases hL
      case isTrue hn =>
        have hM2 : sMt reg gv ρ ρ0 (S.1, r, S.2.2) loc r1 h := sMt_stk hM e2
        cases hb : stb (S.1, r, S.2.2) x pc lo offs.toList with
        | none => rw [hb] at hL; cases hL
        | some L2 =>
          rw [hb] at hL
          cases hL
          by_cases hc : x'.toInt < lo ∨ hi < x'.toInt
          · refine ⟨(ztgt pc d, loc, r1, h), ?_, rfl, ?_⟩
            · simp only [zf4, zo1]
              rw [if_pos hc]
              unfold zj
              rw [if_pos hn.1]
            · rcases hc with hc | hc
              · obtain ⟨S', q1, q2, -⟩ := sas_ok hM2 (c := sac x (1 - lo)) (by rw [sac_v]; omega)
                refine ⟨(ztgt pc d, S'), ?_, ρ, rfl, q2⟩
                rw [q1]
                exact List.mem_append_left _ (List.mem_singleton.mpr rfl)
              · obtain ⟨S', q1, q2, -⟩ := sas_ok hM2 (c := sac (sng x) (hi + 1)) (by rw [sac_v, sng_v]; omega)
                refine ⟨(ztgt pc d, S'), ?_, ρ, rfl, q2⟩
                rw [q1]
                exact List.mem_append_right _ (List.mem_append_left _ (List.mem_singleton.mpr rfl))
          · have hlt : (x'.toInt - lo).toNat < offs.size := by omega
            have hget : offs[(x'.toInt - lo).toNat]? = some offs[(x'.toInt - lo).toNat] := Array.getElem?_eq_getElem hlt
            obtain ⟨q1, z, q2, q3⟩ := stb_ok (j := (x'.toInt - lo).toNat) hM2 hb (by rw [Array.getElem?_toList]; exact hget) (by omega)
            refine ⟨(ztgt pc offs[(x'.toInt - lo).toNat], loc, r1, h), ?_, rfl, z, List.mem_append_right _ (List.mem_append_right _ q2), q3⟩
            simp only [zf4, zo1]
            rw [if_neg hc, hget]
            simp only [zj]
            rw [if_pos q1]
  case lookupswitch d ps =>
    simp only [s4] at hL
    match hst : S.2.1, hL, hs with
    | .inl x :: r, hL, hs =>
      obtain ⟨x', r1, rfl, e1, e2⟩ := sms_i hs
      simp only at hL
      split at hL
      case isFalse => cases hL
      case isTrue hn =>
        have hM2 : sMt reg gv ρ ρ0 (S.1, r, S.2.2) loc r1 h := sMt_stk hM e2
        obtain ⟨q1, q2⟩ := slk_ok hM2 hL
        rw [← e1] at q1 q2
        refine ⟨(ztgt pc (Op.lookupswitch.offset ps.toList d x'.toInt), loc, r1, h), ?_, rfl, q2⟩
        simp only [zf4, zo1, zgd, hn, zj]
        rw [if_pos q1]
        rfl
  all_goals cases hL
theorem s5_ok {kI : Nat → Option Int32} {kL : Nat → Option Int64} {i : Instr} {pc : Nat} {L : List (Nat × sS)} (hM : sMt reg gv ρ ρ0 S loc stk h) (hL : s5 kI kL i pc S = some L) : ∃ q, zf5 kI kL i pc loc stk h = some q ∧ q.2.2.2 = h ∧ sgo reg gv ρ0 L q := by
  have hs := hM.2.1
  cases i
  case ldc x =>
    simp only [s5] at hL
    cases hv : kI x with
    | none => rw [hv] at hL; cases hL
    | some v =>
      rw [hv] at hL
      cases hL
      refine ⟨(pc + 2, loc, .inl v :: stk, h), ?_, rfl, _, List.mem_singleton.mpr rfl, ρ, rfl, sMt_stk hM ⟨(sK_v ..).symm, hs⟩⟩
      simp only [zf5, hv]
  case ldc_w x =>
    simp only [s5] at hL
    cases hv : kI x with
    | none => rw [hv] at hL; cases hL
    | some v =>
      rw [hv] at hL
      cases hL
      refine ⟨(pc + 3, loc, .inl v :: stk, h), ?_, rfl, _, List.mem_singleton.mpr rfl, ρ, rfl, sMt_stk hM ⟨(sK_v ..).symm, hs⟩⟩
      simp only [zf5, hv]
  case ldc2_w x =>
    simp only [s5] at hL
    cases hv : kL x with
    | none => rw [hv] at hL; cases hL
    | some v =>
      rw [hv] at hL
      cases hL
      refine ⟨(pc + 3, loc, .inr (.inl v) :: stk, h), ?_, rfl, _, List.mem_singleton.mpr rfl, ρ, rfl, sMt_stk hM ⟨(sK_v ..).symm, hs⟩⟩
      simp only [zf5, hv]
  all_goals cases hL
end S2OK
