/-! a method's ways from place to place; what is told of a method holds -/
section SSEG
variable (tab : Nat → (Nat × List Nat) ⊕ (Nat × Nat × List Nat)) (pI : Nat → Nat → Option Instr) (mL : Nat → Nat) (mR : Nat → Option FieldType) (fld : Nat → Nat → Option (Nat × Nat × Nat)) (kI : Nat → Nat → Option Int32) (kL : Nat → Nat → Option Int64) (gst : Nat → Nat → Option zV) (ldS fldS : Nat → Nat → Option Nat) (acp : Nat → Nat → Bool) (cal : Nat → Nat → Option (Nat × Nat × Nat))
variable (reg : Nat → Nat) (rin : Nat → (Nat × List Nat) ⊕ (Nat × Nat × List Nat)) (sing : Nat → Bool) (gG : Nat → List (Nat × Nat × Int × Int)) (gu : Nat → sD) (gv : Nat → zH → Int)
noncomputable def sSum (Q : sQ) : Prop := ∀ (args : List zV) (h : zH) (ρ ρ0 : Nat → Int), sG reg gG h → sMt reg gv ρ ρ0 (sAs Q.2.1) (zent 0 args) [] h → ∀ d, Q.2.2.2.2 ≤ d → ∃ m r h', zrun tab pI mL mR fld kI kL gst ldS fldS acp cal m d Q.1 0 (zent 0 args) [] h = some (r, h') ∧ sG reg gG h' ∧ sF reg Q.2.2.2.1 h h' ∧ ∃ X ∈ Q.2.2.1, sEx reg gv Q.2.1.2.1.length X ρ0 r h'
noncomputable def sstp (mid : Nat) (md : sD) (i : Instr) (pc : Nat) (S : sS) : Option (List (Nat × sS)) := match s1 i pc S with
  | some L => some L
  | none => match s2 rin sing gG gu md (fld mid) i pc S with
    | some L => some L
    | none => match s4 i pc S with
      | some L => some L
      | none => match s5 (kI mid) (kL mid) i pc S with
        | some L => some L
        | none => s6 reg rin gG gu md (gst mid) (kI mid) (ldS mid) (fldS mid) (acp mid) i pc S
noncomputable def scl (mid : Nat) : Instr → Option (Nat × Nat × Nat)
  | .invokevirtual idx => (match cal mid idx with
    | some z => if z.2.2 < 100 then some z else none
    | none => none)
  | .invokestatic idx => (match cal mid idx with
    | some z => if z.2.2 = 100 then some z else none
    | none => none)
  | _ => none
/-- 0: neither a call nor an end; 1: a call; 2: an end -/
noncomputable def skd (mid : Nat) : Instr → Nat
  | .invokevirtual _ => 1
  | .invokestatic idx => if (cal mid idx).isSome = true then 1 else 0
  | .ireturn => 2
  | .lreturn => 2
  | .return_ => 2
  | _ => 0
noncomputable def srk (ret : Option FieldType) (i : Instr) (S : sS) : Bool := match i, ret, S.2.1 with
  | .ireturn, some .int, [.inl _] => true
  | .ireturn, some .boolean, [.inl e] => sb01 S e
  | .ireturn, some .byte, [.inl e] => spr S e && spr S (sng e)
  | .lreturn, some .long, [.inr (.inl _)] => true
  | .return_, none, [] => true
  | _, _, _ => false
noncomputable def smo (md d : sD) : Bool := d.all (fun z => md.any (fun y => decide (y.1 = z.1) && (decide (y.2.1 ≤ z.2.1) && decide (z.2.2 ≤ y.2.2))))
noncomputable def sseg (labs : Nat → List sA) (Qs : List sQ) (md : sD) (dep n : Nat) (Xs : List sX) (mid : Nat) : Nat → Nat → Bool → sS → Bool
  | 0, _, _, _ => false
  | f + 1, pc, first, S =>
    if (!first && !(labs pc).isEmpty) = true then (S.2.1.isEmpty && (labs pc).any (fun A => sarr sing gG A S))
    else match pI mid pc with
      | none => false
      | some i => match skd cal mid i with
        | 0 => (match sstp fld kI kL gst ldS fldS acp reg rin sing gG gu mid md i pc S with
          | some L => L.all (fun z => sseg labs Qs md dep n Xs mid f z.1 false z.2)
          | none => false)
        | 1 => (match scl cal mid i with
          | some z => (match Qs.findSome? (fun Q => if (smo md Q.2.2.2.1 && decide (Q.2.2.2.2 < dep)) = true then scal sing gG gu rin mL S z.1 z.2.1 z.2.2 Q else none) with
            | some L => L.all (fun T => sseg labs Qs md dep n Xs mid f (pc + 3) false T)
            | none => false)
          | none => false)
        | _ => srk (mR mid) i S && Xs.any (fun X => sxr sing gG n X S)
end SSEG
section SSEGO
variable {tab : Nat → (Nat × List Nat) ⊕ (Nat × Nat × List Nat)} {pI : Nat → Nat → Option Instr} {mL : Nat → Nat} {mR : Nat → Option FieldType} {fld : Nat → Nat → Option (Nat × Nat × Nat)} {kI : Nat → Nat → Option Int32} {kL : Nat → Nat → Option Int64} {gst : Nat → Nat → Option zV} {ldS fldS : Nat → Nat → Option Nat} {acp : Nat → Nat → Bool} {cal : Nat → Nat → Option (Nat × Nat × Nat)}
variable {reg : Nat → Nat} {rin : Nat → (Nat × List Nat) ⊕ (Nat × Nat × List Nat)} {sing : Nat → Bool} {gG : Nat → List (Nat × Nat × Int × Int)} {gu : Nat → sD} {gv : Nat → zH → Int} {ρ ρ0 : Nat → Int} {S : sS} {loc : zL} {stk : List zV} {h h0 : zH}
theorem zrun_S : ∀ (n d mid pc : Nat) (loc : zL) (stk : List zV) (h : zH) (x : Option zV × zH), zrun tab pI mL mR fld kI kL gst ldS fldS acp cal n d mid pc loc stk h = some x → zrun tab pI mL mR fld kI kL gst ldS fldS acp cal (n + 1) d mid pc loc stk h = some x
  | 0, _, _, _, _, _, _, _, e => by cases e
  | n + 1, d, mid, pc, loc, stk, h, x, e => by
    rw [zrun] at e ⊢
    cases hi : pI mid pc with
    | none => simp only [hi] at e; cases e
    | some i =>
      simp only [hi] at e ⊢
      cases hc : zcl tab mL cal mid i stk with
      | some z =>
        obtain ⟨callee, av, rest⟩ := z
        simp only [hc] at e ⊢
        cases d with
        | zero => cases e
        | succ d' =>
          simp only at e ⊢
          cases hr : zrun tab pI mL mR fld kI kL gst ldS fldS acp cal n d' callee 0 (zent 0 av) [] h with
          | none => simp only [hr] at e; cases e
          | some z =>
            obtain ⟨r, h1⟩ := z
            simp only [hr] at e
            rw [zrun_S n d' callee 0 (zent 0 av) [] h (r, h1) hr]
            exact zrun_S n _ _ _ _ _ _ _ e
      | none =>
        simp only [hc] at e ⊢
        cases hz : zend (mR mid) i stk with
        | some r => simp only [hz] at e ⊢; exact e
        | none =>
          simp only [hz] at e ⊢
          cases hs : zst tab fld kI kL gst ldS fldS acp mid i pc loc stk h with
          | none => simp only [hs] at e; cases e
          | some q =>
            simp only [hs] at e ⊢
            exact zrun_S n _ _ _ _ _ _ _ e
theorem zrun_le {n m d mid pc : Nat} {loc : zL} {stk : List zV} {h : zH} {x : Option zV × zH} (hnm : n ≤ m) (e : zrun tab pI mL mR fld kI kL gst ldS fldS acp cal n d mid pc loc stk h = some x) : zrun tab pI mL mR fld kI kL gst ldS fldS acp cal m d mid pc loc stk h = some x := by
  obtain ⟨k, rfl⟩ := Nat.le.dest hnm
  clear hnm
  induction k with
  | zero => exact e
  | succ k ih => exact zrun_S _ _ _ _ _ _ _ _ ih
theorem zf2_f1 {f : Nat → Option (Nat × Nat × Nat)} {i : Instr} {pc : Nat} {loc : zL} {stk : List zV} {h : zH} {q : zN} (e : zf2 tab f i pc loc stk h = some q) : zf1 i pc loc stk h = none := by
  cases i <;> first | rfl | cases e
theorem zf4_f1 {f : Nat → Option (Nat × Nat × Nat)} {i : Instr} {pc : Nat} {loc : zL} {stk : List zV} {h : zH} {q : zN} (e : zf4 i pc loc stk h = some q) : zf1 i pc loc stk h = none ∧ zf2 tab f i pc loc stk h = none := by
  cases i <;> first | exact ⟨rfl, rfl⟩ | cases e
theorem zf5_f1 {f : Nat → Option (Nat × Nat × Nat)} {a : Nat → Option Int32} {b : Nat → Option Int64} {i : Instr} {pc : Nat} {loc : zL} {stk : List zV} {h : zH} {q : zN} (e : zf5 a b i pc loc stk h = some q) : zf1 i pc loc stk h = none ∧ zf2 tab f i pc loc stk h = none ∧ zf4 i pc loc stk h = none := by
  cases i <;> first | exact ⟨rfl, rfl, rfl⟩ | cases e
theorem sstp_ok (hcomp : ∀ k, rin (reg k) = smT reg (tab k)) (hsing : ∀ k k', sing (reg k) = true → reg k' = reg k → k' = k) (hr : ∀ k, reg k < 1000) (hgv : sGv reg gu gv) {mid : Nat} {md : sD} (hG : sG reg gG h) (hF : sF reg md h0 h) {i : Instr} {pc : Nat} {L : List (Nat × sS)} (hM : sMt reg gv ρ ρ0 S loc stk h) (hL : sstp fld kI kL gst ldS fldS acp reg rin sing gG gu mid md i pc S = some L) : ∃ q, zst tab fld kI kL gst ldS fldS acp mid i pc loc stk h = some q ∧ sG reg gG q.2.2.2 ∧ sF reg md h0 q.2.2.2 ∧ sgo reg gv ρ0 L q := by
  unfold sstp at hL
  cases h1 : s1 i pc S with
  | some L1 =>
    rw [h1] at hL
    cases hL
    obtain ⟨q, a, b, c⟩ := s1_ok hM h1
    refine ⟨q, ?_, by rw [b]; exact hG, by rw [b]; exact hF, c⟩
    unfold zst
    rw [a]
  | none =>
    rw [h1] at hL
    simp only at hL
    cases h2 : s2 rin sing gG gu md (fld mid) i pc S with
    | some L1 =>
      rw [h2] at hL
      cases hL
      obtain ⟨q, a, b, c, d⟩ := s2_ok hcomp hsing hr hgv hG hF hM h2
      refine ⟨q, ?_, b, c, d⟩
      unfold zst
      rw [zf2_f1 a, a]
    | none =>
      rw [h2] at hL
      simp only at hL
      cases h4 : s4 i pc S with
      | some L1 =>
        rw [h4] at hL
        cases hL
        obtain ⟨q, a, b, c⟩ := s4_ok hM h4
        refine ⟨q, ?_, by rw [b]; exact hG, by rw [b]; exact hF, c⟩
        have := zf4_f1 (tab := tab) (f := fld mid) a
        unfold zst
        rw [this.1, this.2, a]
      | none =>
        rw [h4] at hL
        simp only at hL
        cases h5 : s5 (kI mid) (kL mid) i pc S with
        | some L1 =>
          rw [h5] at hL
          cases hL
          obtain ⟨q, a, b, c⟩ := s5_ok hM h5
          refine ⟨q, ?_, by rw [b]; exact hG, by rw [b]; exact hF, c⟩
          have := zf5_f1 (tab := tab) (f := fld mid) a
          unfold zst
          rw [this.1, this.2.1, this.2.2, a]
        | none =>
          rw [h5] at hL
          simp only at hL
          obtain ⟨a1, a2, a3, a4, q, a, b, c, d⟩ := s6_ok (tab := tab) (fld := fld mid) (kL := kL mid) hcomp hgv hG hF hM hL
          refine ⟨q, ?_, b, c, d⟩
          unfold zst
          rw [a1, a2, a3, a4, a]
theorem smo_ok {md d : sD} {h1 : zH} (hm : smo md d = true) (hF : sF reg md h0 h) (hF2 : sF reg d h h1) : sF reg md h0 h1 := by
  intro k i hne
  by_cases hq : h1.1 k i = h.1 k i
  · rw [hq] at hne
    exact hF k i hne
  · obtain ⟨z, hz, z1, z2, z3⟩ := hF2 k i hq
    have := (List.all_eq_true.mp hm) z hz
    obtain ⟨y, hy, hy2⟩ := List.any_eq_true.mp this
    simp only [Bool.and_eq_true, decide_eq_true_eq] at hy2
    exact ⟨y, hy, z1.trans hy2.1.symm, by omega, by omega⟩
theorem src0_ok (hcomp : ∀ k, rin (reg k) = smT reg (tab k)) {kc : Nat} {l : List zV} {t : List sV} (hm : sms reg ρ l t) (hq : src0 rin kc t = true) : zrcv tab kc l = true := by
  match t, hm, hq with
  | .inr (.inr r) :: _, hm, hq =>
    obtain ⟨k, r1, rfl, hk, -⟩ := sms_r hm
    simp only [src0] at hq
    rw [← hk, hcomp k] at hq
    simp only [zrcv]
    cases ht : tab k with
    | inl z => obtain ⟨ci, fk⟩ := z; rw [ht] at hq; exact hq
    | inr z => obtain ⟨t, n, q⟩ := z; rw [ht] at hq; exact hq
theorem srk_el {ret : Option FieldType} {i : Instr} {S : sS} (hk : srk ret i S = true) : (i = .ireturn ∧ ret = some .int ∧ ∃ e, S.2.1 = [.inl e]) ∨ (i = .ireturn ∧ ret = some .boolean ∧ ∃ e, S.2.1 = [.inl e] ∧ sb01 S e = true) ∨ (i = .ireturn ∧ ret = some .byte ∧ ∃ e, S.2.1 = [.inl e] ∧ (spr S e && spr S (sng e)) = true) ∨ (i = .lreturn ∧ ret = some .long ∧ ∃ e, S.2.1 = [.inr (.inl e)]) ∨ (i = .return_ ∧ ret = none ∧ S.2.1 = []) := by
  unfold srk at hk
  split at hk
  · exact Or.inl ⟨rfl, rfl, _, by assumption⟩
  · exact Or.inr (Or.inl ⟨rfl, rfl, _, by assumption, hk⟩)
  · exact Or.inr (Or.inr (Or.inl ⟨rfl, rfl, _, by assumption, hk⟩))
  · exact Or.inr (Or.inr (Or.inr (Or.inl ⟨rfl, rfl, _, by assumption⟩)))
  · exact Or.inr (Or.inr (Or.inr (Or.inr ⟨rfl, rfl, by assumption⟩)))
  · cases hk
theorem scal_ok (hcomp : ∀ k, rin (reg k) = smT reg (tab k)) (hsing : ∀ k k', sing (reg k) = true → reg k' = reg k → k' = k) (hcell : ∀ r, sing r = true → ∃ k, reg k = r) (hgv : sGv reg gu gv) (hG : sG reg gG h) (hM : sMt reg gv ρ ρ0 S loc stk h) {callee na kc d : Nat} {Q : sQ} {L : List sS} (hQ : sSum tab pI mL mR fld kI kL gst ldS fldS acp cal reg gG gv Q) (hd : Q.2.2.2.2 ≤ d) (hL : scal sing gG gu rin mL S callee na kc Q = some L) :
    na ≤ stk.length ∧ ((stk.drop na).map zcat).sum ≤ 8 ∧ ((stk.take na).reverse.map zcat).sum ≤ mL callee ∧ (kc = 100 ∨ (kc < 100 ∧ zrcv tab kc (stk.take na).reverse = true)) ∧ ∃ m r h', zrun tab pI mL mR fld kI kL gst ldS fldS acp cal m d callee 0 (zent 0 (stk.take na).reverse) [] h = some (r, h') ∧ sG reg gG h' ∧ sF reg Q.2.2.2.1 h h' ∧ ∃ T ∈ L, ∃ ρ', sMt reg gv ρ' ρ0 T loc (r.toList ++ stk.drop na) h' := by
  unfold scal at hL
  split at hL
  case isFalse => cases hL
  case isTrue hc =>
    simp only [Bool.and_eq_true, Bool.or_eq_true, decide_eq_true_eq] at hc
    obtain ⟨c1, c2, c3, c4, c5, c6⟩ := hc
    have hs := hM.2.1
    have hsa := sms_rev (sms_take na hs)
    have hsd := sms_drop na hs
    refine ⟨by rw [sms_len hs]; exact c2, by rw [scat_sum hsd]; exact c3, by rw [scat_sum hsa]; exact c4, ?_, ?_⟩
    · rcases c6 with c6 | c6
      · exact Or.inl c6
      · refine Or.inr ⟨c6.1, ?_⟩
        exact src0_ok hcomp hsa c6.2
    · cases hs0 : sar0 sing gG Q.2.1 (sent 0 (S.2.1.take na).reverse, S.2.1 ++ S.1.map (·.2), S.2.2) with
      | none => rw [hs0] at hL; cases hL
      | some z =>
        obtain ⟨σ, T⟩ := z
        rw [hs0] at hL
        simp only at hL
        obtain ⟨lv, lv1, lv2⟩ := slv hM.1
        have hM1 : sMt reg gv ρ ρ0 (sent 0 (S.2.1.take na).reverse, S.2.1 ++ S.1.map (·.2), S.2.2) (zent 0 (stk.take na).reverse) (stk ++ lv) h := ⟨sent_ok hsa, sms_app hs lv1, hM.2.2⟩
        obtain ⟨ρ1, m1, l1, l2, l3, l4, l5, l6⟩ := sar0_ok hsing hcell hG hM1 hs0
        have hent : sMt reg gv (sval ρ1 σ) (fun j => match j with | 0 => sv (sval ρ1 σ) Q.2.1.2.2.2.2.2 | j + 1 => sval ρ1 σ j) (sAs Q.2.1) (zent 0 (stk.take na).reverse) [] h := by
          refine ⟨l1, trivial, l2, l3, l4, ?_⟩
          intro p hp
          rcases List.mem_cons.mp hp with rfl | hp
          · rfl
          · obtain ⟨y, hy, rfl⟩ := List.mem_map.mp hp
            have := eq_of_beq ((List.all_eq_true.mp c5) y hy)
            show sval ρ1 σ y.1 = sv (sval ρ1 σ) (sY y.2)
            rw [sY_v, this]
        obtain ⟨m, r, h', r1, r2, r3, X, hX, ρx, x1, x2, x3, x4, x5⟩ := hQ _ h _ _ hG hent d hd
        rw [c1] at r1
        refine ⟨m, r, h', r1, r2, r3, ?_⟩
        obtain ⟨o, o1, o2⟩ := sap2_mem hL X hX
        unfold sap1 at o1
        cases hf : sfn X.2.2.1 σ (skl gu Q.2.2.2.1 T) with
        | none => rw [hf] at o1; cases o1
        | some z =>
          obtain ⟨σ', T1⟩ := z
          rw [hf] at o1
          simp only at o1
          have hk := skl_ok hgv r3 m1
          obtain ⟨ρ2, n1, n2, ⟨τ, n3, n4, n5⟩, n6⟩ := sfn_ok X.2.2.1 σ σ' _ T1 ρ1 (fun k => ρx (Q.2.1.2.1.length + k)) hk hf x2
          have hσ' : ∀ (s : Nat) (f : sE), σ'[s]? = some f → ρx s = sv ρ2 f := by
            intro s f hf
            rw [n3] at hf
            by_cases hlt : s < σ.length
            · rw [List.getElem?_append_left hlt] at hf
              rw [n2 f (List.mem_of_getElem? hf), x1 s (by omega)]
              exact sval_h s f hf
            · rw [List.getElem?_append_right (by omega)] at hf
              have := n5 _ f hf
              rw [this, ← l6]
              congr 1
              omega
          cases hcs : scas σ' X.2.2.2.1 T1 with
          | none => rw [hcs] at o1; cases o1
          | some oo =>
            obtain ⟨T2, t1, t2, t3⟩ := scas_ok X.2.2.2.1 T1 oo n1 hσ' x3 hcs
            subst t1
            rw [hcs] at o1
            simp only at o1
            cases hsh : shm σ' X.2.1 with
            | none => rw [hsh] at o1; cases o1
            | some ms =>
              cases hsr : srp σ' X.1 with
              | none => rw [hsh, hsr] at o1; cases o1
              | some rv =>
                rw [hsh, hsr] at o1
                cases o1
                refine ⟨_, o2 _ rfl, ρ2, ?_⟩
                have hst : T2.2.1 = S.2.1 ++ S.1.map (·.2) := (t3.trans n6).trans l5
                have hss := t2.2.1
                rw [hst] at hss
                obtain ⟨ss1, ss2⟩ := sms_split (sms_len hs) hss
                refine ⟨lv2 ρ2 ss2, sms_app (srp_ok hσ' hsr x5) (sms_drop na ss1), ?_, t2.2.2.2⟩
                intro mm hmm
                rcases List.mem_append.mp hmm with hmm | hmm
                · exact shm_ok hσ' hsh x4 mm hmm
                · exact t2.2.2.1 mm hmm
theorem sEx_congr {n : Nat} {X : sX} {ρ0' : Nat → Int} {r : Option zV} (he : ∀ j, ρ0' (j + 1) = ρ0 (j + 1)) (hx : sEx reg gv n X ρ0' r h) : sEx reg gv n X ρ0 r h := by
  obtain ⟨ρx, a, b⟩ := hx
  exact ⟨ρx, fun j hj => (a j hj).trans (he j), b⟩
theorem skd0 {mid : Nat} {i : Instr} {stk : List zV} (hk : skd cal mid i = 0) : zcl tab mL cal mid i stk = none ∧ zend (mR mid) i stk = none := by
  cases i
  case invokestatic idx =>
    simp only [skd] at hk
    cases hc : cal mid idx with
    | some z => rw [hc] at hk; cases hk
    | none =>
      refine ⟨?_, rfl⟩
      simp only [zcl, hc]
  case ireturn => cases hk
  case lreturn => cases hk
  case return_ => cases hk
  case invokevirtual idx => cases hk
  all_goals exact ⟨rfl, rfl⟩
theorem sseg_ok (hcomp : ∀ k, rin (reg k) = smT reg (tab k)) (hsing : ∀ k k', sing (reg k) = true → reg k' = reg k → k' = k) (hcell : ∀ r, sing r = true → ∃ k, reg k = r) (hr : ∀ k, reg k < 1000) (hgv : sGv reg gu gv) {labs : Nat → List sA} {Qs : List sQ} {md : sD} {dep n : Nat} {Xs : List sX} {mid d : Nat} (hd : dep ≤ d) (hQs : ∀ Q ∈ Qs, sSum tab pI mL mR fld kI kL gst ldS fldS acp cal reg gG gv Q) {h0 : zH} :
    ∀ (f pc : Nat) (first : Bool) (S : sS) (loc : zL) (stk : List zV) (h : zH) (ρ ρ0 : Nat → Int), sseg pI mL mR fld kI kL gst ldS fldS acp cal reg rin sing gG gu labs Qs md dep n Xs mid f pc first S = true → sMt reg gv ρ ρ0 S loc stk h → sG reg gG h → sF reg md h0 h →
    (∀ pc A, A ∈ labs pc → ∀ (loc : zL) (h : zH) (ρ ρ0' : Nat → Int), (∀ j, ρ0' (j + 1) = ρ0 (j + 1)) → 0 ≤ ρ0' 0 → ρ0' 0 < ρ0 0 → sMt reg gv ρ ρ0' (sAs A) loc [] h → sG reg gG h → sF reg md h0 h → ∃ m r h', zrun tab pI mL mR fld kI kL gst ldS fldS acp cal m d mid pc loc [] h = some (r, h') ∧ sG reg gG h' ∧ sF reg md h0 h' ∧ ∃ X ∈ Xs, sEx reg gv n X ρ0 r h') →
    ∃ m r h', zrun tab pI mL mR fld kI kL gst ldS fldS acp cal m d mid pc loc stk h = some (r, h') ∧ sG reg gG h' ∧ sF reg md h0 h' ∧ ∃ X ∈ Xs, sEx reg gv n X ρ0 r h'
  | 0, _, _, _, _, _, _, _, _, hs, _, _, _, _ => by cases hs
  | f + 1, pc, first, S, loc, stk, h, ρ, ρ0, hs, hM, hG, hF, IH => by
    unfold sseg at hs
    split at hs
    case isTrue hlab =>
      rw [Bool.and_eq_true, List.isEmpty_iff] at hs
      obtain ⟨A, hA, hA2⟩ := List.any_eq_true.mp hs.2
      have hst := hM.2.1
      rw [hs.1] at hst
      have hstk : stk = [] := List.eq_nil_of_length_eq_zero (by have := sms_len hst; simpa using this)
      subst hstk
      obtain ⟨ρ', ρ0', a1, a2, a3, a4⟩ := sarr_ok hsing hcell hG hM hA2
      exact IH pc A hA loc h ρ' ρ0' a1 a2 a3 a4 hG hF
    case isFalse =>
      cases hi : pI mid pc with
      | none => simp only [hi] at hs; cases hs
      | some i =>
        simp only [hi] at hs
        split at hs
        case h_1 hk =>
          cases hst : sstp fld kI kL gst ldS fldS acp reg rin sing gG gu mid md i pc S with
          | none => simp only [hst] at hs; cases hs
          | some L =>
            simp only [hst] at hs
            obtain ⟨q, q1, q2, q3, z, hz, ρ', q4, q5⟩ := sstp_ok hcomp hsing hr hgv hG hF hM hst
            have hz2 := (List.all_eq_true.mp hs) z hz
            rw [← q4] at hz2
            obtain ⟨m, r, h', r1, r2⟩ := sseg_ok hcomp hsing hcell hr hgv hd hQs f q.1 false z.2 q.2.1 q.2.2.1 q.2.2.2 ρ' ρ0 hz2 q5 q2 q3 IH
            refine ⟨m + 1, r, h', ?_, r2⟩
            obtain ⟨k1, k2⟩ := skd0 (tab := tab) (mL := mL) (mR := mR) (stk := stk) hk
            rw [zrun]
            simp only [hi, k1, k2, q1]
            exact r1
        case h_2 hk =>
          cases hc : scl cal mid i with
          | none => simp only [hc] at hs; cases hs
          | some z =>
            simp only [hc] at hs
            cases hfs : Qs.findSome? (fun Q => if (smo md Q.2.2.2.1 && decide (Q.2.2.2.2 < dep)) = true then scal sing gG gu rin mL S z.1 z.2.1 z.2.2 Q else none) with
            | none => simp only [hfs] at hs; cases hs
            | some L =>
              simp only [hfs] at hs
              obtain ⟨Q, hQ, hQ2⟩ := List.exists_of_findSome?_eq_some hfs
              split at hQ2
              case isFalse => cases hQ2
              case isTrue hmo =>
                rw [Bool.and_eq_true, decide_eq_true_eq] at hmo
                obtain ⟨d', rfl⟩ : ∃ d', d = d' + 1 := ⟨d - 1, by omega⟩
                obtain ⟨p1, p2, p3, p4, m1, r1, h1, u1, u2, u3, T, hT, ρ', u4⟩ := scal_ok hcomp hsing hcell hgv hG hM (d := d') (hQs Q hQ) (by omega) hQ2
                have hT2 := (List.all_eq_true.mp hs) T hT
                obtain ⟨m, r, h', v1, v2⟩ := sseg_ok hcomp hsing hcell hr hgv hd hQs f (pc + 3) false T loc (r1.toList ++ stk.drop z.2.1) h1 ρ' ρ0 hT2 u4 u2 (smo_ok hmo.1 hF u3) IH
                have hcl : zcl tab mL cal mid i stk = some (z.1, (stk.take z.2.1).reverse, stk.drop z.2.1) := by
                  cases i
                  case invokevirtual idx =>
                    simp only [scl] at hc
                    cases hca : cal mid idx with
                    | none => simp only [hca] at hc; cases hc
                    | some y =>
                      simp only [hca] at hc
                      split at hc
                      case isFalse => cases hc
                      case isTrue hlt =>
                        cases hc
                        obtain ⟨callee, na, kc⟩ := z
                        simp only [zcl, hca]
                        rw [if_pos]
                        simp only [Bool.and_eq_true, decide_eq_true_eq]
                        simp only at p1 p2 p3 p4 hlt
                        rcases p4 with p4 | p4
                        · omega
                        · exact ⟨⟨⟨⟨hlt, p1⟩, p2⟩, p3⟩, p4.2⟩
                  case invokestatic idx =>
                    simp only [scl] at hc
                    cases hca : cal mid idx with
                    | none => simp only [hca] at hc; cases hc
                    | some y =>
                      simp only [hca] at hc
                      split at hc
                      case isFalse => cases hc
                      case isTrue hlt =>
                        cases hc
                        obtain ⟨callee, na, kc⟩ := z
                        simp only [zcl, hca]
                        rw [if_pos]
                        simp only [Bool.and_eq_true, decide_eq_true_eq]
                        exact ⟨⟨⟨hlt, p1⟩, p2⟩, p3⟩
                  all_goals cases hc
                refine ⟨max m m1 + 1, r, h', ?_, v2⟩
                rw [zrun]
                simp only [hi, hcl]
                rw [zrun_le (Nat.le_max_right m m1) u1]
                exact zrun_le (Nat.le_max_left m m1) v1
        case h_3 =>
          rw [Bool.and_eq_true] at hs
          obtain ⟨X, hX, hX2⟩ := List.any_eq_true.mp hs.2
          obtain ⟨x1, x2⟩ := sxr_ok hsing hcell hG hM hX2
          have hrk := hs.1
          have hze : zcl tab mL cal mid i stk = none ∧ zend (mR mid) i stk = some stk.head? := by
            rcases srk_el hrk with ⟨rfl, hret, e, hst⟩ | ⟨rfl, hret, e, hst, hq⟩ | ⟨rfl, hret, e, hst, hq⟩ | ⟨rfl, hret, e, hst⟩ | ⟨rfl, hret, hst⟩
            · rcases x2 with ⟨x, e', rfl, q1, q2⟩ | ⟨y, e', rfl, q1⟩ | ⟨rfl, q1⟩
              · exact ⟨rfl, by rw [hret]; rfl⟩
              · rw [q1] at hst; cases hst
              · rw [q1] at hst; cases hst
            · rcases x2 with ⟨x, e', rfl, q1, q2⟩ | ⟨y, e', rfl, q1⟩ | ⟨rfl, q1⟩
              · rw [q1] at hst
                cases hst
                have := sb01_ok hM hq q2
                refine ⟨rfl, ?_⟩
                rw [hret]
                show (if x = 0 ∨ x = 1 then _ else _) = _
                rw [if_pos this]
                rfl
              · rw [q1] at hst; cases hst
              · rw [q1] at hst; cases hst
            · rcases x2 with ⟨x, e', rfl, q1, q2⟩ | ⟨y, e', rfl, q1⟩ | ⟨rfl, q1⟩
              · rw [q1] at hst
                cases hst
                rw [Bool.and_eq_true] at hq
                have p1 := spr_le hM hq.1
                have p2 := spr_le hM hq.2
                rw [sng_v] at p2
                have : x = 0 := Int32.toInt_inj.mp (by rw [q2]; show _ = (0 : Int); omega)
                refine ⟨rfl, ?_⟩
                rw [hret]
                show (if x = 0 then _ else _) = _
                rw [if_pos this]
                rfl
              · rw [q1] at hst; cases hst
              · rw [q1] at hst; cases hst
            · rcases x2 with ⟨x, e', rfl, q1, q2⟩ | ⟨y, e', rfl, q1⟩ | ⟨rfl, q1⟩
              · rw [q1] at hst; cases hst
              · exact ⟨rfl, by rw [hret]; rfl⟩
              · rw [q1] at hst; cases hst
            · rcases x2 with ⟨x, e', rfl, q1, q2⟩ | ⟨y, e', rfl, q1⟩ | ⟨rfl, q1⟩
              · rw [q1] at hst; cases hst
              · rw [q1] at hst; cases hst
              · exact ⟨rfl, by rw [hret]; rfl⟩
          refine ⟨1, stk.head?, h, ?_, hG, hF, X, hX, x1⟩
          rw [zrun]
          simp only [hi, hze.1, hze.2]
/-- all the places' ways are well: what is told of the method holds -/
theorem smeth (hcomp : ∀ k, rin (reg k) = smT reg (tab k)) (hsing : ∀ k k', sing (reg k) = true → reg k' = reg k → k' = k) (hcell : ∀ r, sing r = true → ∃ k, reg k = r) (hr : ∀ k, reg k < 1000) (hgv : sGv reg gu gv) {labs : Nat → List sA} {Qs : List sQ} {Q : sQ} (hQs : ∀ Q ∈ Qs, sSum tab pI mL mR fld kI kL gst ldS fldS acp cal reg gG gv Q) {F : Nat} (h0 : Q.2.1 ∈ labs 0)
    (hl : ∀ pc A, A ∈ labs pc → sseg pI mL mR fld kI kL gst ldS fldS acp cal reg rin sing gG gu labs Qs Q.2.2.2.1 Q.2.2.2.2 Q.2.1.2.1.length Q.2.2.1 Q.1 F pc true (sAs A) = true) : sSum tab pI mL mR fld kI kL gst ldS fldS acp cal reg gG gv Q := by
  intro args h ρ ρ0 hG hM d hd
  have key : ∀ (k : Nat) (pc : Nat) (A : sA), A ∈ labs pc → ∀ (loc : zL) (h1 : zH) (ρ ρ0 : Nat → Int), (ρ0 0).toNat ≤ k → sMt reg gv ρ ρ0 (sAs A) loc [] h1 → sG reg gG h1 → sF reg Q.2.2.2.1 h h1 → ∃ m r h', zrun tab pI mL mR fld kI kL gst ldS fldS acp cal m d Q.1 pc loc [] h1 = some (r, h') ∧ sG reg gG h' ∧ sF reg Q.2.2.2.1 h h' ∧ ∃ X ∈ Q.2.2.1, sEx reg gv Q.2.1.2.1.length X ρ0 r h' := by
    intro k
    induction k with
    | zero =>
      intro pc A hA loc h1 ρ ρ0 hk hM hG hF
      refine sseg_ok hcomp hsing hcell hr hgv hd hQs F pc true (sAs A) loc [] h1 ρ ρ0 (hl pc A hA) hM hG hF ?_
      intro pc2 A2 hA2 loc2 h2 ρ2 ρ0' e1 e2 e3
      omega
    | succ k ih =>
      intro pc A hA loc h1 ρ ρ0 hk hM hG hF
      refine sseg_ok hcomp hsing hcell hr hgv hd hQs F pc true (sAs A) loc [] h1 ρ ρ0 (hl pc A hA) hM hG hF ?_
      intro pc2 A2 hA2 loc2 h2 ρ2 ρ0' e1 e2 e3 hM2 hG2 hF2
      obtain ⟨m, r, h', r1, r2, r3, X, hX, r4⟩ := ih pc2 A2 hA2 loc2 h2 ρ2 ρ0' (by omega) hM2 hG2 hF2
      exact ⟨m, r, h', r1, r2, r3, X, hX, sEx_congr e1 r4⟩
  exact key _ 0 Q.2.1 h0 (zent 0 args) h ρ ρ0 (Nat.le_refl _) hM hG (fun _ _ hne => absurd rfl hne)
end SSEGO
