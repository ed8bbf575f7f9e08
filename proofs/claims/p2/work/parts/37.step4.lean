/-! a step on expressions: what is static, texts, rows copied -/
noncomputable def sct : sV → Nat
  | .inr (.inl _) => 2
  | _ => 1
section S6D
variable (reg : Nat → Nat) (rin : Nat → (Nat × List Nat) ⊕ (Nat × Nat × List Nat)) (gG : Nat → List (Nat × Nat × Int × Int)) (gu : Nat → sD) (md : sD) (gst : Nat → Option zV) (kI : Nat → Option Int32) (ldS fldS : Nat → Option Nat) (acp : Nat → Bool)
/-- the source's values at lo .. hi lie between u and w -/
noncomputable def scv (b t n0 : Nat) (q : List Nat) (lo hi u w : Int) : Bool := if t = 0 then (decide (u ≤ (sgb gG b lo hi).1) && decide ((sgb gG b lo hi).2 ≤ w)) else (List.range n0).all (fun j => decide ((j : Int) < lo) || (decide (hi < (j : Int)) || (decide (q.getD j 0 ≤ 2147483647) && (decide (u ≤ (q.getD j 0 : Int)) && decide ((q.getD j 0 : Int) ≤ w)))))
noncomputable def sac6 (S : sS) (pc : Nat) (n dp : sE) (a : Nat) (sp : sE) (b : Nat) (rest : List sV) : Option (List (Nat × sS)) := match rin a, rin b, sCo sp, sCo dp, sUb S.2.2.2.1 n with
  | .inr (t1, n1, _), .inr (t, n0, q), some s, some d, some u =>
    if (decide (t1 = 0) && (decide (t = 0 ∨ t = 4) && (decide ((rest.map sct).sum ≤ 8) && (decide (0 ≤ s) && (decide (0 ≤ d) && (spr S (sng n) && (spr S (sac n (s - n0)) && (spr S (sac n (d - n1)) && ((gG a).all (fun z => decide (d + u ≤ (z.1 : Int)) || (decide ((z.2.1 : Int) < d) || scv gG b t n0 q (max (z.1 : Int) d - d + s) (min (z.2.1 : Int) (d + u - 1) - d + s) z.2.2.1 z.2.2.2)) && md.any (fun z => decide (z.1 = a) && (decide (z.2.1 ≤ d) && decide (d + u - 1 ≤ z.2.2)))))))))))) = true then
      some [(pc + 3, ((skl gu [(a, d, d + u - 1)] S).1, rest, (skl gu [(a, d, d + u - 1)] S).2.2))] else none
  | _, _, _, _, _ => none
noncomputable def s6 (i : Instr) (pc : Nat) (S : sS) : Option (List (Nat × sS)) := match i with
  | .getstatic idx => (match gst idx with
    | some (.inl x) => some [(pc + 3, (S.1, .inl (sK x.toInt) :: S.2.1, S.2.2))]
    | some (.inr (.inr k)) => some [(pc + 3, (S.1, .inr (.inr (reg k)) :: S.2.1, S.2.2))]
    | _ => none)
  | .ldc idx => (match kI idx, ldS idx with
    | none, some k => some [(pc + 2, (S.1, .inr (.inr (reg k)) :: S.2.1, S.2.2))]
    | _, _ => none)
  | .getfield idx => (match S.2.1 with
    | .inr (.inr r) :: rest => (match rin r, fldS idx with
      | .inr (5, v, _), some 0 => some [(pc + 3, (S.1, .inr (.inr v) :: rest, S.2.2))]
      | .inr (5, _, _), some (_ + 1) => some [(pc + 3, (S.1, .inl (sK 0) :: rest, S.2.2))]
      | _, _ => none)
    | _ => none)
  | .iaload => (match S.2.1 with
    | .inl e :: .inr (.inr r) :: rest => (match rin r with
      | .inr (4, n, q) => if (sin S e n && q.all (fun x => decide (x ≤ 2147483647))) = true then some ((List.range n).flatMap (fun (j : Nat) => (sceq (S.1, rest, S.2.2) (sac e (-(j : Int)))).toList.map (fun T => (pc + 1, (T.1, .inl (sK (q.getD j 0)) :: T.2.1, T.2.2))))) else none
      | _ => none)
    | _ => none)
  | .baload => (match S.2.1 with
    | .inl e :: .inr (.inr r) :: _ => (match rin r with
      | .inr (6, n, q) => if (sin S e n && (decide (q.length = n) && q.all (fun x => decide (1 ≤ x ∧ x ≤ 127)))) = true then spu 2 (pc + 1) (sfr 1 127 S []) else none
      | _ => none)
    | _ => none)
  | .arraylength => (match S.2.1 with
    | .inr (.inr r) :: rest => (match rin r with
      | .inr (t, n, _) => if (t = 4 ∨ t = 6) ∧ n ≤ 2147483647 then some [(pc + 1, (S.1, .inl (sK n) :: rest, S.2.2))] else none
      | _ => none)
    | _ => none)
  | .i2b => (match S.2.1 with
    | .inl x :: _ => spu 1 (pc + 1) (srg S x (-128) 127)
    | _ => none)
  | .invokestatic idx => if acp idx = true then (match S.2.1 with
    | .inl n :: .inl dp :: .inr (.inr a) :: .inl sp :: .inr (.inr b) :: rest => sac6 rin gG gu md S pc n dp a sp b rest
    | _ => none) else none
  | _ => none
end S6D
section S6OK
variable {tab rin : Nat → (Nat × List Nat) ⊕ (Nat × Nat × List Nat)} {reg : Nat → Nat} {sing : Nat → Bool} {gG : Nat → List (Nat × Nat × Int × Int)} {gu : Nat → sD} {md : sD} {fld : Nat → Option (Nat × Nat × Nat)} {gst : Nat → Option zV} {kI : Nat → Option Int32} {kL : Nat → Option Int64} {ldS fldS : Nat → Option Nat} {acp : Nat → Bool} {gv : Nat → zH → Int} {ρ ρ0 : Nat → Int} {S T : sS} {loc : zL} {stk : List zV} {h h0 : zH} {e : sE}
theorem srow (hcomp : ∀ k, rin (reg k) = smT reg (tab k)) {k t n : Nat} {q : List Nat} (ht : rin (reg k) = .inr (t, n, q)) (h5 : t ≠ 5) (h23 : ¬ (t = 2 ∨ t = 3)) : tab k = .inr (t, n, q) := by
  rw [hcomp k] at ht
  cases hk : tab k with
  | inl z => obtain ⟨a, b⟩ := z; rw [hk] at ht; cases ht
  | inr z =>
    obtain ⟨t2, n2, q2⟩ := z
    rw [hk] at ht
    have ht := Sum.inr.inj ht
    have e1 : t2 = t := congrArg (·.1) ht
    have e2 := congrArg (·.2.1) ht
    have e3 := congrArg (·.2.2) ht
    simp only at e2 e3
    subst e1
    rw [if_neg h5] at e2
    rw [if_neg h23] at e3
    rw [e2, e3]
theorem scat_sum : ∀ {l : List zV} {t : List sV}, sms reg ρ l t → (l.map zcat).sum = (t.map sct).sum
  | [], [], _ => rfl
  | v :: l, s :: t, hm => by
    rw [List.map_cons, List.map_cons, List.sum_cons, List.sum_cons, scat_sum hm.2]
    congr 1
    match v, s, hm.1 with
    | .inl _, .inl _, _ => rfl
    | .inr (.inl _), .inr (.inl _), _ => rfl
    | .inr (.inr _), .inr (.inr _), _ => rfl
theorem sac6_ok (hcomp : ∀ k, rin (reg k) = smT reg (tab k)) (hgv : sGv reg gu gv) (hG : sG reg gG h) (hF : sF reg md h0 h) {idx pc : Nat} {L : List (Nat × sS)} {n dp sp : Int32} {ka kb : Nat} {r : List zV} {en ed es : sE} {rest : List sV} (ha : acp idx = true) (hM : sMt reg gv ρ ρ0 S loc (.inl n :: .inl dp :: .inr (.inr ka) :: .inl sp :: .inr (.inr kb) :: r) h) (hn : n.toInt = sv ρ en) (hd : dp.toInt = sv ρ ed) (hs : sp.toInt = sv ρ es) (hr : sms reg ρ r rest) (hL : sac6 rin gG gu md S pc en ed (reg ka) es (reg kb) rest = some L) : ∃ q, zf6 tab gst ldS fldS acp (.invokestatic idx) pc loc (.inl n :: .inl dp :: .inr (.inr ka) :: .inl sp :: .inr (.inr kb) :: r) h = some q ∧ sG reg gG q.2.2.2 ∧ sF reg md h0 q.2.2.2 ∧ sgo reg gv ρ0 L q := by
  unfold sac6 at hL
  cases hra : rin (reg ka) with
  | inl z => rw [hra] at hL; cases hL
  | inr z =>
    obtain ⟨t1, n1, q1⟩ := z
    cases hrb : rin (reg kb) with
    | inl z => rw [hra, hrb] at hL; cases hL
    | inr z =>
      obtain ⟨t, n0, q⟩ := z
      cases hcs : sCo es with
      | none => rw [hra, hrb, hcs] at hL; cases hL
      | some s =>
        cases hcd : sCo ed with
        | none => rw [hra, hrb, hcs, hcd] at hL; cases hL
        | some d =>
          cases hcu : sUb S.2.2.2.1 en with
          | none => rw [hra, hrb, hcs, hcd, hcu] at hL; cases hL
          | some u =>
            rw [hra, hrb, hcs, hcd, hcu] at hL
            simp only at hL
            split at hL
            case isFalse => cases hL
            case isTrue hc =>
              cases hL
              simp only [Bool.and_eq_true, decide_eq_true_eq] at hc
              obtain ⟨c1, c2, c3, c4, c5, c6, c7, c8, c9, c10⟩ := hc
              subst c1
              have hta := srow hcomp hra (by omega) (by omega)
              have htb := srow hcomp hrb (by omega) (by omega)
              have hs := hs.trans (sCo_v hcs)
              have hd := hd.trans (sCo_v hcd)
              have hu := sUb_le hM.2.2.2.1 hcu
              have p6 := spr_le hM c6
              have p7 := spr_le hM c7
              have p8 := spr_le hM c8
              rw [sng_v] at p6
              rw [sac_v] at p7 p8
              have nn : n.toNatClampNeg = n.toInt.toNat := rfl
              have nd : dp.toNatClampNeg = dp.toInt.toNat := rfl
              have ns : sp.toNatClampNeg = sp.toInt.toNat := rfl
              have hsum : (r.map zcat).sum ≤ 8 := by rw [scat_sum hr]; exact c3
              generalize hh2 : zsr h ka (va_cpy (if t = 0 then h.1 kb else fun j => Int32.ofNat (q.getD j 0)) (h.1 ka) sp.toNatClampNeg dp.toNatClampNeg n.toNatClampNeg) = h2
              have hv1 : ∀ k, k ≠ ka → h2.1 k = h.1 k := fun k hk => by
                rw [← hh2]
                show (if k = ka then _ else _) = _
                rw [if_neg hk]
              have hv2 : h2.1 ka = va_cpy (if t = 0 then h.1 kb else fun j => Int32.ofNat (q.getD j 0)) (h.1 ka) sp.toNatClampNeg dp.toNatClampNeg n.toNatClampNeg := by
                rw [← hh2]
                show (if ka = ka then _ else _) = _
                rw [if_pos rfl]
              have hF1 : sF reg [(reg ka, d, d + u - 1)] h h2 := by
                intro k j hne
                by_cases hk : k = ka
                · subst hk
                  refine ⟨_, List.mem_singleton.mpr rfl, rfl, ?_⟩
                  rw [hv2] at hne
                  by_cases hj : dp.toNatClampNeg ≤ j ∧ j < dp.toNatClampNeg + n.toNatClampNeg
                  · simp only
                    omega
                  · rw [pk_cpy_out (by omega)] at hne
                    exact absurd rfl hne
                · rw [hv1 k hk] at hne
                  exact absurd rfl hne
              refine ⟨(pc + 3, loc, r, h2), ?_, ?_, ?_, ?_⟩
              · simp only [zf6, ha, hta, htb, zar, zoA, zgd, decide_eq_true hsum, decide_eq_true c2, if_true]
                rw [if_pos (by apply decide_eq_true; omega), hh2]
              · intro k z hz j hj1 hj2
                by_cases hk : k = ka
                · subst hk
                  by_cases hj : dp.toNatClampNeg ≤ j ∧ j < dp.toNatClampNeg + n.toNatClampNeg
                  · rw [hv2, pk_cpy_in hj.1 hj.2]
                    have hgz := (List.all_eq_true.mp c9) z hz
                    simp only [Bool.or_eq_true, decide_eq_true_eq] at hgz
                    rcases hgz with g | g | g
                    · omega
                    · omega
                    · unfold scv at g
                      by_cases ht : t = 0
                      · rw [if_pos ht, Bool.and_eq_true, decide_eq_true_eq, decide_eq_true_eq] at g
                        rw [if_pos ht]
                        have hb : (sgb gG (reg kb) (max (z.1 : Int) d - d + s) (min (z.2.1 : Int) (d + u - 1) - d + s)).1 ≤ (h.1 kb (sp.toNatClampNeg + (j - dp.toNatClampNeg))).toInt ∧ (h.1 kb (sp.toNatClampNeg + (j - dp.toNatClampNeg))).toInt ≤ (sgb gG (reg kb) (max (z.1 : Int) d - d + s) (min (z.2.1 : Int) (d + u - 1) - d + s)).2 := by
                          unfold sgb
                          cases hg : (gG (reg kb)).find? (fun y => decide ((y.1 : Int) ≤ max (z.1 : Int) d - d + s) && decide (min (z.2.1 : Int) (d + u - 1) - d + s ≤ (y.2.1 : Int))) with
                          | none => exact si32 _
                          | some y =>
                            have hy := List.find?_some hg
                            simp only [Bool.and_eq_true, decide_eq_true_eq] at hy
                            exact hG kb y (List.mem_of_find?_eq_some hg) _ (by omega) (by omega)
                        omega
                      · rw [if_neg ht, List.all_eq_true] at g
                        rw [if_neg ht]
                        have g1 := g (sp.toNatClampNeg + (j - dp.toNatClampNeg)) (List.mem_range.mpr (by omega))
                        simp only [Bool.or_eq_true, Bool.and_eq_true, decide_eq_true_eq] at g1
                        rcases g1 with g1 | g1 | ⟨g1, g2, g3⟩
                        · omega
                        · omega
                        · have e0 : (Int32.ofNat (q.getD (sp.toNatClampNeg + (j - dp.toNatClampNeg)) 0)).toInt = ((q.getD (sp.toNatClampNeg + (j - dp.toNatClampNeg)) 0 : Nat) : Int) := so32 (n := ((q.getD (sp.toNatClampNeg + (j - dp.toNatClampNeg)) 0 : Nat) : Int)) (by omega) (by omega)
                          rw [e0]
                          exact ⟨g2, g3⟩
                  · rw [hv2, pk_cpy_out (by omega)]
                    exact hG k z hz j hj1 hj2
                · rw [hv1 k hk]
                  exact hG k z hz j hj1 hj2
              · intro k j hne
                by_cases hne2 : h2.1 k j = h.1 k j
                · rw [hne2] at hne
                  exact hF k j hne
                · obtain ⟨z1, hz1, a1, a2, a3⟩ := hF1 k j hne2
                  rw [List.mem_singleton] at hz1
                  subst hz1
                  obtain ⟨z, hz, hz2⟩ := List.any_eq_true.mp c10
                  simp only [Bool.and_eq_true, decide_eq_true_eq] at hz2
                  simp only at a1 a2 a3
                  exact ⟨z, hz, a1.trans hz2.1.symm, by omega, by omega⟩
              · exact ⟨_, List.mem_singleton.mpr rfl, ρ, rfl, sMt_stk (skl_ok hgv hF1 hM) hr⟩
theorem zf1_g {i : Instr} {pc : Nat} {loc : zL} {stk : List zV} {h : zH} (hi : (match i with | .getstatic _ => true | .ldc _ => true | .getfield _ => true | .iaload => true | .baload => true | .arraylength => true | .i2b => true | .invokestatic _ => true | _ => false) = true) : zf1 i pc loc stk h = none ∧ zf4 i pc loc stk h = none := by
  cases i <;> first | exact ⟨rfl, rfl⟩ | cases hi
set_option maxHeartbeats 2000000 in
theorem s6_ok (hcomp : ∀ k, rin (reg k) = smT reg (tab k)) (hgv : sGv reg gu gv) (hG : sG reg gG h) (hF : sF reg md h0 h) {i : Instr} {pc : Nat} {L : List (Nat × sS)} (hM : sMt reg gv ρ ρ0 S loc stk h) (hL : s6 reg rin gG gu md gst kI ldS fldS acp i pc S = some L) : zf1 i pc loc stk h = none ∧ zf2 tab fld i pc loc stk h = none ∧ zf4 i pc loc stk h = none ∧ zf5 kI kL i pc loc stk h = none ∧ ∃ q, zf6 tab gst ldS fldS acp i pc loc stk h = some q ∧ sG reg gG q.2.2.2 ∧ sF reg md h0 q.2.2.2 ∧ sgo reg gv ρ0 L q := by
  have hs := hM.2.1
  cases i
  case getstatic idx =>
    refine ⟨rfl, rfl, rfl, rfl, ?_⟩
    simp only [s6] at hL
    cases hg : gst idx with
    | none => rw [hg] at hL; cases hL
    | some v =>
      rw [hg] at hL
      match v, hL, hg with
      | .inl x, hL, hg =>
        cases hL
        refine ⟨(pc + 3, loc, .inl x :: stk, h), ?_, hG, hF, _, List.mem_singleton.mpr rfl, ρ, rfl, sMt_stk hM ⟨(sK_v ..).symm, hs⟩⟩
        simp only [zf6, hg]
      | .inr (.inr k), hL, hg =>
        cases hL
        refine ⟨(pc + 3, loc, .inr (.inr k) :: stk, h), ?_, hG, hF, _, List.mem_singleton.mpr rfl, ρ, rfl, sMt_stk hM ⟨rfl, hs⟩⟩
        simp only [zf6, hg]
  case ldc idx =>
    simp only [s6] at hL
    cases hk : kI idx with
    | some v => rw [hk] at hL; cases hL
    | none =>
      cases hg : ldS idx with
      | none => rw [hk, hg] at hL; cases hL
      | some k =>
        rw [hk, hg] at hL
        cases hL
        refine ⟨rfl, rfl, rfl, ?_, (pc + 2, loc, .inr (.inr k) :: stk, h), ?_, hG, hF, _, List.mem_singleton.mpr rfl, ρ, rfl, sMt_stk hM ⟨rfl, hs⟩⟩
        · simp only [zf5, hk]
        · simp only [zf6, hg]
  case getfield idx =>
    simp only [s6] at hL
    match hst : S.2.1, hL, hs with
    | .inr (.inr r) :: rest, hL, hs =>
      obtain ⟨k, r1, rfl, rfl, e2⟩ := sms_r hs
      simp only at hL
      have hcase : ∃ v q, rin (reg k) = .inr (5, v, q) := by
        cases hrk : rin (reg k) with
        | inl z => rw [hrk] at hL; cases hL
        | inr z =>
          obtain ⟨t, v, q⟩ := z
          by_cases ht : t = 5
          · exact ⟨v, q, by rw [ht]⟩
          · rw [hrk] at hL
            exfalso
            revert hL
            split
            · rename_i h1 h2
              simp only [Sum.inr.injEq, Prod.mk.injEq] at h1
              omega
            · rename_i h1 h2
              simp only [Sum.inr.injEq, Prod.mk.injEq] at h1
              omega
            · intro hL; cases hL
      obtain ⟨v, q, hv⟩ := hcase
      have htab : ∃ v0, tab k = .inr (5, v0, q) ∧ v = reg v0 := by
        have hc := hcomp k
        rw [hv] at hc
        cases hk : tab k with
        | inl z => obtain ⟨a, b⟩ := z; rw [hk] at hc; cases hc
        | inr z =>
          obtain ⟨t, v0, q0⟩ := z
          rw [hk] at hc
          have hc := Sum.inr.inj hc
          have e1 : 5 = t := congrArg (·.1) hc
          have e2 := congrArg (·.2.1) hc
          have e3 := congrArg (·.2.2) hc
          simp only at e2 e3
          subst e1
          rw [if_pos rfl] at e2
          rw [if_neg (by omega)] at e3
          exact ⟨v0, by rw [e3], e2⟩
      obtain ⟨v0, ht, rfl⟩ := htab
      have hzar : zar tab k 5 = some (v0, q) := by
        unfold zar
        rw [ht]
        rfl
      refine ⟨rfl, ?_, rfl, rfl, ?_⟩
      · simp only [zf2, zoR1, zfo, ht, zoF]
      · rw [hv] at hL
        cases hf : fldS idx with
        | none => rw [hf] at hL; cases hL
        | some t =>
          rw [hf] at hL
          match t, hL, hf with
          | 0, hL, hf =>
            cases hL
            refine ⟨(pc + 3, loc, .inr (.inr v0) :: r1, h), ?_, hG, hF, _, List.mem_singleton.mpr rfl, ρ, rfl, sMt_stk hM ⟨rfl, e2⟩⟩
            simp only [zf6, zoR1, hzar, zoA, hf]
          | t + 1, hL, hf =>
            cases hL
            refine ⟨(pc + 3, loc, .inl 0 :: r1, h), ?_, hG, hF, _, List.mem_singleton.mpr rfl, ρ, rfl, sMt_stk hM ⟨(sK_v ..).symm, e2⟩⟩
            simp only [zf6, zoR1, hzar, zoA, hf]
  case iaload =>
    simp only [s6] at hL
    match hst : S.2.1, hL, hs with
    | .inl e :: .inr (.inr r) :: rest, hL, hs =>
      obtain ⟨x', r1, rfl, e1, e2⟩ := sms_i hs
      obtain ⟨k, r2, rfl, rfl, e3⟩ := sms_r e2
      simp only at hL
      cases hrk : rin (reg k) with
      | inl z => rw [hrk] at hL; cases hL
      | inr z =>
        obtain ⟨t, n, q⟩ := z
        rw [hrk] at hL
        split at hL
        case h_2 => cases hL
        case h_1 heq =>
          simp only [Sum.inr.injEq, Prod.mk.injEq] at heq
          obtain ⟨rfl, rfl, rfl⟩ := heq
          have ht := srow hcomp hrk (by omega) (by omega)
          split at hL
          case isFalse => cases hL
          case isTrue hc =>
            cases hL
            rw [Bool.and_eq_true] at hc
            obtain ⟨i1, i2, i3⟩ := sin_ok hM hc.1 e1
            have hlt : x'.toNatClampNeg < n := by
              have := of_decide_eq_true i1
              show x'.toInt.toNat < n
              omega
            refine ⟨rfl, ?_, rfl, rfl, (pc + 1, loc, .inl (Int32.ofNat (q.getD x'.toNatClampNeg 0)) :: r2, h), ?_, hG, hF, ?_⟩
            · simp only [zf2, zoRI, zar, ht, zoA]
              rfl
            · simp only [zf6, zoRI, zar, ht, zoA, zgd, i1, if_true]
            · have hM2 : sMt reg gv ρ ρ0 (S.1, rest, S.2.2) loc r2 h := sMt_stk hM e3
              obtain ⟨T, q1, q2, -⟩ := sceq_ok hM2 (d := sac e (-((x'.toNatClampNeg : Nat) : Int))) (by rw [sac_v, i3]; omega)
              refine ⟨(pc + 1, (T.1, .inl (sK (q.getD x'.toNatClampNeg 0)) :: T.2.1, T.2.2)), ?_, ρ, rfl, sMt_stk q2 ⟨?_, q2.2.1⟩⟩
              · refine List.mem_flatMap.mpr ⟨x'.toNatClampNeg, List.mem_range.mpr hlt, ?_⟩
                rw [q1]
                exact List.mem_singleton.mpr rfl
              · show (Int32.ofNat (q.getD x'.toNatClampNeg 0)).toInt = _
                rw [sK_v]
                have hle : q.getD x'.toNatClampNeg 0 ≤ 2147483647 := by
                  rw [List.getD_eq_getElem?_getD]
                  cases hq : q[x'.toNatClampNeg]? with
                  | none => exact Nat.zero_le _
                  | some y => exact of_decide_eq_true ((List.all_eq_true.mp hc.2) y (List.mem_of_getElem? hq))
                exact so32 (n := ((q.getD x'.toNatClampNeg 0 : Nat) : Int)) (by omega) (by omega)
  case baload =>
    simp only [s6] at hL
    match hst : S.2.1, hL, hs with
    | .inl e :: .inr (.inr r) :: rest, hL, hs =>
      obtain ⟨x', r1, rfl, e1, e2⟩ := sms_i hs
      obtain ⟨k, r2, rfl, rfl, e3⟩ := sms_r e2
      simp only at hL
      cases hrk : rin (reg k) with
      | inl z => rw [hrk] at hL; cases hL
      | inr z =>
        obtain ⟨t, n, q⟩ := z
        rw [hrk] at hL
        split at hL
        case h_2 => cases hL
        case h_1 heq =>
          simp only [Sum.inr.injEq, Prod.mk.injEq] at heq
          obtain ⟨rfl, rfl, rfl⟩ := heq
          have ht := srow hcomp hrk (by omega) (by omega)
          split at hL
          case isFalse => cases hL
          case isTrue hc =>
            simp only [Bool.and_eq_true, decide_eq_true_eq] at hc
            obtain ⟨hc1, hc2, hc3⟩ := hc
            obtain ⟨i1, i2, i3⟩ := sin_ok hM hc1 e1
            have hlt : x'.toNatClampNeg < q.length := by
              have := of_decide_eq_true i1
              rw [hc2]
              show x'.toInt.toNat < n
              omega
            have hb := of_decide_eq_true ((List.all_eq_true.mp hc3) q[x'.toNatClampNeg] (List.getElem_mem hlt))
            have hg : q.getD x'.toNatClampNeg 0 = q[x'.toNatClampNeg] := by
              rw [List.getD_eq_getElem?_getD, List.getElem?_eq_getElem hlt]
              rfl
            refine ⟨rfl, ?_, rfl, rfl, (pc + 1, loc, .inl (Int32.ofNat (q.getD x'.toNatClampNeg 0)) :: r2, h), ?_, hG, hF, ?_⟩
            · simp only [zf2, zoRI, zar, ht, zoA]
              rfl
            · simp only [zf6, zoRI, zar, ht, zoA, zgd, i1, if_true]
            · refine spu_go (stk := .inl x' :: .inr (.inr k) :: r2) hL (fun e T ho => ?_)
              have e0 : (Int32.ofNat (q.getD x'.toNatClampNeg 0)).toInt = ((q.getD x'.toNatClampNeg 0 : Nat) : Int) := so32 (n := ((q.getD x'.toNatClampNeg 0 : Nat) : Int)) (by omega) (by omega)
              obtain ⟨ρ', a, b, -⟩ := sfr_ok (x := (Int32.ofNat (q.getD x'.toNatClampNeg 0)).toInt) ho hM (by rw [e0]; omega) (by rw [e0]; omega)
              exact ⟨ρ', a, b.symm⟩
  case arraylength =>
    simp only [s6] at hL
    match hst : S.2.1, hL, hs with
    | .inr (.inr r) :: rest, hL, hs =>
      obtain ⟨k, r2, rfl, rfl, e3⟩ := sms_r hs
      simp only at hL
      cases hrk : rin (reg k) with
      | inl z => rw [hrk] at hL; cases hL
      | inr z =>
        obtain ⟨t, n, q⟩ := z
        rw [hrk] at hL
        simp only at hL
        split at hL
        case isFalse => cases hL
        case isTrue hc =>
          cases hL
          have ht := srow hcomp hrk (by omega) (by omega)
          refine ⟨rfl, ?_, rfl, rfl, (pc + 1, loc, .inl (Int32.ofNat n) :: r2, h), ?_, hG, hF, _, List.mem_singleton.mpr rfl, ρ, rfl, sMt_stk hM ⟨?_, e3⟩⟩
          · simp only [zf2, zoR1, ht, zgd]
            rw [if_neg (by rw [decide_eq_true_eq]; omega)]
          · simp only [zf6, zoR1, ht, zgd, decide_eq_true hc.1, if_true]
          · show (Int32.ofNat n).toInt = _
            rw [sK_v]
            exact so32 (n := (n : Int)) (by omega) (by omega)
  case i2b =>
    refine ⟨rfl, rfl, rfl, rfl, ?_⟩
    simp only [s6] at hL
    match hst : S.2.1, hL, hs with
    | .inl x :: r, hL, hs =>
      obtain ⟨x', r1, rfl, e1, e2⟩ := sms_i hs
      exact ⟨_, rfl, hG, hF, spu_go (stk := .inl x' :: r1) hL (fun e T ho => sk2 (α := Nat) (srg_ok ho hM _ (fun h1 h2 => by rw [← e1]; exact si2b x' (by omega) (by omega))))⟩
  case invokestatic idx =>
    refine ⟨rfl, rfl, rfl, rfl, ?_⟩
    simp only [s6] at hL
    split at hL
    case isFalse => cases hL
    case isTrue ha =>
      match hst : S.2.1, hL, hs with
      | .inl n :: .inl dp :: .inr (.inr a) :: .inl sp :: .inr (.inr b) :: rest, hL, hs =>
        obtain ⟨n', r1, rfl, e1, f1⟩ := sms_i hs
        obtain ⟨d', r2, rfl, e2, f2⟩ := sms_i f1
        obtain ⟨ka, r3, rfl, rfl, f3⟩ := sms_r f2
        obtain ⟨s', r4, rfl, e4, f4⟩ := sms_i f3
        obtain ⟨kb, r5, rfl, rfl, f5⟩ := sms_r f4
        exact sac6_ok hcomp hgv hG hF ha hM e1 e2 e4 f5 hL
  all_goals cases hL
end S6OK
