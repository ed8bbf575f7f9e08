/-! the making of cells: runs -/
section KRUN
variable {kPI : Nat → Nat → Option Instr} {mY : Nat → MethodName} {mC : Nat → ByteArray} {mL : Nat → Nat} {kNw : Nat → Nat → Option Nat} {kFl : Nat → Nat → Option (Nat × Nat)} {kDf : Nat → List (Option zV)} {kTy : Nat → Nat → Nat} {kQa kGa : Nat → Nat → Bool} {kCl : Nat → Nat → Option (Nat × Nat × Bool)}
variable {cI cZ cQ cG : ClassId} {dC : Nat → ClassId} {dI : Nat → Nat → Nat} {ALL : List Cond} {l : Launch}
theorem kcl_el {mid : Nat} {i : Instr} {n : Nat} {loc : zL} {stk : List zV} {callee na : Nat} (h : kcl mL kCl mid i n loc stk = some (callee, na)) : ∃ idx nest k as, i = .invokespecial idx ∧ kCl mid idx = some (callee, na, nest) ∧ na ≤ stk.length ∧ (loc.all (fun q => kvb n q.2) = true ∧ (stk.drop na).all (kvb n) = true) ∧ ((stk.drop na).map zcat).sum ≤ 8 ∧ ((stk.take na).reverse.map zcat).sum ≤ mL callee ∧ (stk.take na).reverse = .inr (.inr k) :: as := by
  unfold kcl at h
  split at h
  case h_1 idx =>
    split at h
    case h_1 ce na9 nest hc =>
      split at h
      case isFalse => cases h
      case isTrue hg =>
        cases h
        unfold kwl at hg
        simp only [Bool.and_eq_true, decide_eq_true_eq] at hg
        obtain ⟨g1, g2, g3, g4, g5⟩ := hg
        obtain ⟨k, as, hav⟩ := khd_el g5
        exact ⟨idx, nest, k, as, rfl, hc, g1, g2, g3, g4, hav⟩
    case h_2 => cases h
  case h_2 => cases h
set_option maxHeartbeats 4000000 in
theorem kWn_all (hI : kOkI kPI mC mL) (hN : kOkN mY kNw kDf ALL) (hF : kOkF mY kFl kTy ALL) (hAr : kOkA mY kQa kGa ALL) (hC : kOkC mY mC mL kCl ALL) (hALL : ∀ w ∈ ALL, goodWord w = true) : ∀ n : Nat, kWn l kPI mY mC mL kNw kFl kDf kTy kQa kGa kCl cI cZ cQ cG dC dI ALL n := by
  intro n
  induction n with
  | zero => intro d mid pc loc stk cs cs' e; cases e
  | succ n ih =>
    intro d mid pc loc stk cs cs' e p e9 R s m args below meth c H locs ls ad0 ad n0 s0 A hx hb hml hr hin hts hown hK hG hlocks hR hR2 hn hs0 had hA hl hP hD hS
    have e' := e
    unfold krun at e
    cases hi : kPI mid pc with
    | none => rw [hi] at e; cases e
    | some i =>
      obtain ⟨hok, hdec⟩ := hI mid pc i hi
      simp only [hi] at e
      cases hc : kcl mL kCl mid i cs.length loc stk with
      | some z =>
        obtain ⟨callee, na⟩ := z
        simp only [hc] at e
        obtain ⟨idx, nest, k, as, rfl, hcl, g1, ⟨g2, g3⟩, g4, g5, g6⟩ := kcl_el hc
        obtain ⟨w0, w1⟩ := hC mid idx callee na nest hcl
        have hdec : decode (mC mid) pc = .ok (.invokespecial idx, 3) := hdec
        have hstk : stk.map (zv ad) = (as.map (zv ad)).reverse ++ .ref (ad k) :: (stk.drop na).map (zv ad) := by
          have e1 : stk.take na = (.inr (.inr k) :: as : List zV).reverse := by rw [← g6, List.reverse_reverse]
          conv => lhs; rw [← List.take_append_drop na stk, e1]
          rw [List.map_append, List.map_reverse, List.map_cons, List.reverse_cons, List.append_assoc]
          rfl
        have hlen : (as.map (zv ad)).length = na - 1 := by
          have := congrArg List.length g6
          rw [List.length_reverse, List.length_take, List.length_cons] at this
          rw [List.length_map]
          omega
        split at e
        case isTrue h99 =>
          split at e
          case isFalse => cases e
          case isTrue h1 =>
            subst h1
            have has : as = [] := List.eq_nil_of_length_eq_zero (by rw [List.length_map] at hlen; omega)
            subst has
            have k9 := ih d mid (pc + 3) loc (stk.drop 1) cs cs' e (e := e9) (below := below) ad0 ad n0 s0 A hx hb hml hr hin hts hown hK hG hlocks hR hR2 hn hs0 had hA hl hP hD hS
            refine W.objInit (a := ad k) (rest := (stk.drop 1).map (zv ad)) hx hb hown (hts _ (w0 h99)) (hts _ hAr.2.2.2.2.1) (hts _ hAr.2.2.2.2.2) rfl (by rw [hml]; exact hl.1) hstk hdec (by omega) ?_ k9
            rw [zcat_map]
            show 2 * 0 + _ + 12 ≤ _
            omega
        case isFalse h99 =>
          cases d with
          | zero => cases e
          | succ d' =>
            simp only at e
            cases h1 : krun kPI mL kNw kFl kDf kTy kQa kGa kCl n d' callee 0 (zent 0 (stk.take na).reverse) [] cs with
            | none => rw [h1] at e; cases e
            | some cs1 =>
              rw [h1] at e
              have e : krun kPI mL kNw kFl kDf kTy kQa kGa kCl n (d' + 1) mid (pc + 3) loc (stk.drop na) cs1 = some cs' := e
              have mo1 := krun_mono _ _ _ _ _ _ _ _ h1
              have mo2 := krun_mono _ _ _ _ _ _ _ _ e
              obtain ⟨v1, v2, v3, v4, v5, v6, v7, v8, v9, v10, v11, v12⟩ := w1 h99
              have hM := kMet_of ih h1 v2 v4 g5 ad H.size
              rw [g6] at hM
              have hfree : ∀ q, zA ad cs.length H.size q → A q := fun q hq => by
                rcases hq with ⟨id, h1, rfl⟩ | h1
                · have hc9 : cs[id]? = some (cs[id]) := List.getElem?_eq_getElem h1
                  exact hD.2 id _ (kW_at hc9)
                · exact hA q (Nat.le_trans hS.1 h1)
              have hpre : PreS s H (va_Pc ((.inr (.inr k) :: as : List zV).map (zv ad)) (kPre cI cZ cQ cG dC dI ad cs H.size)) (.ref (ad k) :: as.map (zv ad)) := ⟨kBlind, fun U hU hW => ⟨rfl, by rw [hU], by rw [hU]; exact hP, va_K.moved hW.alike hK, hD.weaken (fun _ _ _ _ => trivial), hG.warm hW⟩⟩
              have hroom : (krm d' (cs1.length - cs.length) (ks cs1 - ks cs)).frames + 1 ≤ R.frames ∧ 8 + (mL callee + 11) + (krm d' (cs1.length - cs.length) (ks cs1 - ks cs)).locals ≤ R.locals := by
                refine ⟨hR.1, ?_⟩
                show 8 + (mL callee + 11) + (40 * d' + 200) ≤ _
                have := hR.2
                omega
              have hroom2 : cs.length - n0 + (cs1.length - cs.length) ≤ R.cells ∧ ks cs - s0 + (ks cs1 - ks cs) ≤ R.slots := by omega
              have fin : ∀ (u : Unit) (t : State) (H1 : Heap) (locs1 : List Loc), t.heap = H1 → s.vm.Alike t.vm → True → kB cI cZ cQ cG dC dI ad cs.length (zA ad cs.length H.size) cs1 u t → H.size ≤ H1.size → (∀ q : Nat, q < H.size → ¬ zA ad cs.length H.size q → H1[q]? = H[q]?) → va_S A s.heap H1 locs1 → W p l e9 R s m args below meth c H1 locs1 (cs.length - n0 + (cs1.length - cs.length)) (ks cs - s0 + (ks cs1 - ks cs)) (MQ below (kQ cI cZ cQ cG dC dI ad0 n0 A cs') args s (cs'.length - n0) (ks cs' - s0) A) (F0 m (pc + 3) ls ((stk.drop na).map (zv ad))) := by
                intro u t H1 locs1 ht _ _ hB _ _ hS1
                obtain ⟨ad', b1, b2, b3⟩ := hB
                rw [ht] at b2
                have k9 := ih (d' + 1) mid (pc + 3) loc (stk.drop na) cs1 cs' e (e := e9) (below := below) (ls := ls) ad0 ad' n0 s0 A hx hb hml hr hin hts hown hK hG hlocks hR hR2 (by omega) (by omega) (fun i hi => (b1 i (by omega)).trans (had i hi)) hA (by rw [kloc_e b1 g2]; exact hl) b2 (b3.weaken (fun _ _ _ h => hfree _ h)) hS1
                rw [kstk_e b1 g3] at k9
                exact W.widen (by omega) (by omega) k9
              have hsum9 : 2 * (F0 m pc ls (stk.map (zv ad))).monitorRoom + (((stk.drop na).map (zv ad)).map fun v => v.category).sum ≤ 8 := lv_room (by rw [zcat_map]; exact g4)
              cases nest with
              | false =>
                refine va_callv (va_runI (l := l) (e := e9) (R := R) (below := below) (meth := meth) (locs := locs) (As := as.map (zv ad)) (rest := (stk.drop na).map (zv ad)) (g := F0 m pc ls (stk.map (zv ad))) ⟨hx, hb, hml, hown, hts⟩ hM (cwI (na - 1) hts (kgood hALL v1) rfl rfl rfl (hts _ v5) (hts _ (v11 rfl)) (hts _ v6) v4 ⟨v7, v8, v9⟩ hroom) hpre rfl hlen hl.1 hstk hsum9 hdec hroom2) hS (fun q _ h => hfree q h) hfree fin
              | true =>
                have hnw := hG.1 _ (v12 rfl)
                refine va_callv (va_runIN (l := l) (e := e9) (R := R) (below := below) (meth := meth) (locs := locs) (As := as.map (zv ad)) (rest := (stk.drop na).map (zv ad)) (g := F0 m pc ls (stk.map (zv ad))) ⟨hx, hb, hml, hown, hts⟩ hM ⟨va_cnB (na - 1) hts (kgood hALL v1) rfl rfl rfl hnw (hts _ v5) ⟨v7, v8, v9⟩ hroom, v4, hts _ v6⟩ hpre rfl hlen hl.1 hstk hsum9 hdec hroom2) hS (fun q _ h => hfree q h) hfree fin
      | none =>
        simp only [hc] at e
        have step : (∃ q, kst kNw kFl kDf kTy kQa kGa mid i pc loc stk cs = some q ∧ krun kPI mL kNw kFl kDf kTy kQa kGa kCl n d mid q.1 q.2.1 q.2.2.1 q.2.2.2 = some cs') ∨ (i = .return_ ∧ stk = [] ∧ cs = cs') := by
          split at e
          · split at e
            case isTrue h => cases e; exact Or.inr ⟨rfl, List.isEmpty_iff.mp h, rfl⟩
            case isFalse => cases e
          · cases hk : kst kNw kFl kDf kTy kQa kGa mid i pc loc stk cs with
            | none => rw [hk] at e; cases e
            | some q => rw [hk] at e; exact Or.inl ⟨q, rfl, e⟩
        rcases step with ⟨q, hk, e⟩ | ⟨rfl, rfl, rfl⟩
        · have mo1 := kst_mono hk
          have mo2 := krun_mono _ _ _ _ _ _ _ _ e
          refine kst_sound hI hN hF hAr hi hk hx hb hin hts hown hK hG ⟨by omega, by omega⟩ hn hs0 hA hl hP hD hS (fun ad' H' locs' ls' e1 hl' hP' hD' hS' => ?_)
          exact ih d mid q.1 q.2.1 q.2.2.1 q.2.2.2 cs' e (e := e9) (below := below) ad0 ad' n0 s0 A hx hb hml hr hin hts hown hK hG hlocks hR hR2 (by omega) (by omega) (fun i hi => (e1 i (by omega)).trans (had i hi)) hA hl' hP' hD' hS'
        · exact W.vret hx hb hr (fun t ht hW => ⟨⟨(), rfl, trivial, ad, had, by rw [ht]; exact hP, hD⟩, hS.F ht⟩) hS.2.2 hdec hlocks
end KRUN
