/-! the run's soundness where Math's methods are called: of them there is no free law, but a rule each -/
/-- a rule of a call of such a method -/
noncomputable def zMaR (l : Launch) (tab : Nat → (Nat × List Nat) ⊕ (Nat × Nat × List Nat)) (pI : Nat → Nat → Option Instr) (mY : Nat → MethodName) (mC : Nat → ByteArray) (mL : Nat → Nat) (mR : Nat → Option FieldType) (fld : Nat → Nat → Option (Nat × Nat × Nat)) (kI : Nat → Nat → Option Int32) (kL : Nat → Nat → Option Int64) (gst : Nat → Nat → Option zV) (ldS fldS : Nat → Nat → Option Nat) (acp : Nat → Nat → Bool) (cal : Nat → Nat → Option (Nat × Nat × Nat)) (ad : Nat → Nat) (ALL : List Cond) (own : String) (idx callee na : Nat) : Prop := ∀ (n d : Nat) (av : List zV) (h : zH) (r1 : Option zV) (h1 : zH), zrun tab pI mL mR fld kI kL gst ldS fldS acp cal n d callee 0 (zent 0 av) [] h = some (r1, h1) → av.length = na → h1 = h ∧ ∀ {p : Program} {e : Env} {R : Room} {s : State} {m : MethodId} {args : Array Value} {below : List Frame} {meth : Method} {c : Code} {H : Heap} {locs : List Loc} {cells slots : Nat} {Q : State → Prop} {cc : ByteArray} {pc : Nat} {ls : Array Slot} {rest : List Value}, p.tables.exec = Jvm.exec → c.code = cc → c.maxLocals = ls.size → s.vm.findClass own = some m.cls → (∀ w ∈ ALL, w.before args s = true) → 1 ≤ R.frames → (rest.map fun v => v.category).sum + 15 ≤ R.locals → cells ≤ R.cells → slots ≤ R.slots → decode cc pc = .ok (.invokestatic idx, 3) → W p l e R s m args below meth c H locs cells slots Q (F0 m (pc + 3) ls ((r1.map (zv ad)).toList ++ rest)) → W p l e R s m args below meth c H locs cells slots Q (F0 m pc ls ((av.map (zv ad)).reverse ++ rest))
noncomputable def zOkD (l : Launch) (tab : Nat → (Nat × List Nat) ⊕ (Nat × Nat × List Nat)) (pI : Nat → Nat → Option Instr) (mY : Nat → MethodName) (mC : Nat → ByteArray) (mL : Nat → Nat) (mR : Nat → Option FieldType) (fld : Nat → Nat → Option (Nat × Nat × Nat)) (kI : Nat → Nat → Option Int32) (kL : Nat → Nat → Option Int64) (gst : Nat → Nat → Option zV) (ldS fldS : Nat → Nat → Option Nat) (acp : Nat → Nat → Bool) (cal : Nat → Nat → Option (Nat × Nat × Nat)) (ad : Nat → Nat) (ALL : List Cond) : Prop := ∀ mid idx callee na kc, cal mid idx = some (callee, na, kc) →
  Cond.code (mY callee) (mC callee) (mL callee) (mR callee) ∈ ALL ∧ mL callee ≤ 21 ∧ Cond.methodLink (mY mid).cls idx (mY callee) ∈ ALL ∧ Cond.initialized (mY callee).cls ∈ ALL ∧ (mY callee).cls ≠ "java/lang/invoke/MethodHandle" ∧ (mY callee).cls ≠ "java/lang/invoke/VarHandle" ∧
  (kc = 100 → Cond.static (mY callee) ∈ ALL ∧ (parseMethodDescriptor (mY callee).desc).map (fun d => d.parameters.length) = some na ∧ (plainName (mY callee).cls = true ∨ zMaR l tab pI mY mC mL mR fld kI kL gst ldS fldS acp cal ad ALL (mY mid).cls idx callee na)) ∧
  (kc < 100 → plainName (mY callee).cls = true ∧ 0 < na ∧ Cond.instanceMethod (mY callee) ∈ ALL ∧ Cond.selects (mY callee).cls (mY callee) (mY callee) ∈ ALL ∧ (parseMethodDescriptor (mY callee).desc).map (fun d => d.parameters.length) = some (na - 1) ∧
    ((kc = 99 ∧ (mY callee).cls = "java/lang/String") ∨ (kc < 99 ∧ ∃ q : vw_C, vwCl[kc]? = some q ∧ q.1 = (mY callee).cls)))
noncomputable def zOkI9 (pI : Nat → Nat → Option Instr) (mC : Nat → ByteArray) (mL : Nat → Nat) : Prop := ∀ mid pc i, pI mid pc = some i → (∀ x, i ≠ .new x) → zok (mL mid) i = true ∧ ∃ n, decode (mC mid) pc = .ok (i, n) ∧ (zSwi i = true ∨ n = zlen i)
section ZSNDD
variable {tab : Nat → (Nat × List Nat) ⊕ (Nat × Nat × List Nat)} {pI : Nat → Nat → Option Instr} {mY : Nat → MethodName} {mC : Nat → ByteArray} {mL : Nat → Nat} {mR : Nat → Option FieldType} {fld : Nat → Nat → Option (Nat × Nat × Nat)} {kI : Nat → Nat → Option Int32} {kL : Nat → Nat → Option Int64} {gst : Nat → Nat → Option zV} {ldS fldS : Nat → Nat → Option Nat} {acp : Nat → Nat → Bool} {cal : Nat → Nat → Option (Nat × Nat × Nat)}
variable {cI cZ cQ cG : ClassId} {dC : Nat → ClassId} {dI : Nat → Nat → Nat} {ad : Nat → Nat} {N : Nat} {ALL : List Cond} {gl : List (String × String × String × zV)} {sl : List (String × Nat × String × Nat)} {l : Launch}
set_option maxHeartbeats 4000000 in
theorem zWn_allD (hI : zOkI9 pI mC mL) (hL : zOkL mY fld kI kL gst ldS fldS acp ALL gl sl) (hC : zOkD l tab pI mY mC mL mR fld kI kL gst ldS fldS acp cal ad ALL) (hALL : ∀ w ∈ ALL, goodWord w = true) (hN : ∀ k, N ≤ k → ∃ t n r, 4 ≤ t ∧ tab k = .inr (t, n, r)) (hlong : ∀ (k ci : Nat) (fk : List Nat) (fi j : Nat), tab k = .inl (ci, fk) → fk[fi]? = some 1 → fk[j]? = some 1 → j = fi) (hinj : zInj ad N) (h99 : ∀ k fk, tab k ≠ .inl (99, fk)) (hnat : 8 + (nativeFrameWords "java/lang/System" "arraycopy" 5 + 11) ≤ 200) : ∀ n : Nat, zWn l tab pI mY mC mL mR fld kI kL gst ldS fldS acp cal cI cZ cQ cG dC dI ad N ALL gl sl n := by
  intro n
  induction n with
  | zero => intro d mid pc loc stk h r h' e; cases e
  | succ n ih =>
    intro d mid pc loc stk h r h' e p e9 R s m args below meth c H locs ls hx hb hml hr hts hown hK hT hlocks hR hl hP hS
    have hD : ∀ h2 : zH, va_D (zA ad N s.heap.size) (zW tab cI cZ cQ cG ad N h2) := fun h2 => zD_of hinj (fun id hid => Or.inl ⟨id, hid, rfl⟩)
    obtain ⟨o1, o2, o3, o4, o5, o6, o7⟩ := hL mid
    unfold zrun at e
    cases hi : pI mid pc with
    | none => rw [hi] at e; cases e
    | some i =>
      simp only [hi] at e
      have hnw : ∀ x, i ≠ .new x := fun x hx9 => by
        subst hx9
        simp only [show zcl tab mL cal mid (.new x) stk = none from rfl, show zend (mR mid) (.new x) stk = none from rfl, show zst tab fld kI kL gst ldS fldS acp mid (.new x) pc loc stk h = none from rfl] at e
        cases e
      obtain ⟨hok, ln, hdec, hln⟩ := hI mid pc i hi hnw
      cases hc : zcl tab mL cal mid i stk with
      | some z =>
        obtain ⟨callee, av, rest⟩ := z
        simp only [hc] at e
        cases d with
        | zero => cases e
        | succ d' =>
          simp only at e
          cases hr1 : zrun tab pI mL mR fld kI kL gst ldS fldS acp cal n d' callee 0 (zent 0 av) [] h with
          | none => rw [hr1] at e; cases e
          | some z =>
            obtain ⟨r1, h1⟩ := z
            rw [hr1] at e
            simp only at e
            have hfree : ∀ q, zA ad N H.size q → zA ad N s.heap.size q := zA_mono hS.1
            have fin : ∀ (r2 : Option zV) (h2 : zH) (H1 : Heap) (locs1 : List Loc), (r2 = r1 ∧ h2 = h1) → va_P (dC, dI) vwCl (zW tab cI cZ cQ cG ad N h2) H1 → va_S (zA ad N s.heap.size) s.heap H1 locs1 → W p l e9 R s m args below meth c H1 locs1 0 0 (MQ below (zQ tab cI cZ cQ cG dC dI ad N (zA ad N s.heap.size) (fun r2 h2 => r2 = r ∧ h2 = h')) args s 0 0 (zA ad N s.heap.size)) (F0 m (pc + 3) ls ((r2.map (zv ad)).toList ++ rest.map (zv ad))) := by
              rintro r2 h2 H1 locs1 ⟨rfl, rfl⟩ hP1 hS1
              have k9 := ih (d' + 1) mid (pc + 3) loc (r2.toList ++ rest) h2 r h' e (e := e9) (below := below) hx hb hml hr hts hown hK hT hlocks hR hl hP1 hS1
              have es : (r2.toList ++ rest).map (zv ad) = (r2.map (zv ad)).toList ++ rest.map (zv ad) := by
                rw [List.map_append]
                cases r2 <;> rfl
              rw [es] at k9
              exact k9
            have hpreS : ∀ U : State, U.heap = H → s.WarmedH U.vm → va_Pc (av.map (zv ad)) (zPreM tab gl sl cI cZ cQ cG dC dI ad N H.size h) (av.map (zv ad)).toArray U := fun U hU hWm => ⟨rfl, by rw [hU], by rw [hU]; exact hP, va_K.moved hWm.alike hK, hT.call hS hfree hU hWm⟩
            have hroom : ∀ mx : Nat, mx ≤ 21 → (zrm d').frames + 1 ≤ R.frames ∧ 8 + (mx + 11) + (zrm d').locals ≤ R.locals := fun mx hmx => by
              obtain ⟨a1, a2⟩ := hR
              refine ⟨a1, ?_⟩
              show 8 + (mx + 11) + (40 * d' + 200) ≤ _
              omega
            cases i
            case invokevirtual idx =>
              simp only [zcl] at hc
              cases hcal : cal mid idx with
              | none => rw [hcal] at hc; cases hc
              | some z =>
                obtain ⟨ce, na, kc⟩ := z
                simp only [hcal] at hc
                split at hc
                case isFalse => cases hc
                case isTrue hg =>
                  cases hc
                  simp only [Bool.and_eq_true, decide_eq_true_eq] at hg
                  obtain ⟨⟨⟨⟨g1, g2⟩, g3⟩, g4⟩, g5⟩ := hg
                  obtain ⟨w1, w3, w4, w5, w6, w7, -, w9⟩ := hC mid idx callee na kc hcal
                  obtain ⟨w2, v0, v1, v2, v3, v4⟩ := w9 g1
                  have hM := zMet_of ih hr1 w2 g4 H.size
                  have hdec : decode (mC mid) pc = .ok (.invokevirtual idx, 3) := by
                    rcases hln with q | q
                    · cases q
                    · rw [q] at hdec; exact hdec
                  match hav : (stk.take na).reverse, g5 with
                  | .inr (.inr k) :: as, g5 =>
                    have hstk : stk.map (zv ad) = (as.map (zv ad)).reverse ++ .ref (ad k) :: (stk.drop na).map (zv ad) := by
                      have e1 : stk.take na = (.inr (.inr k) :: as : List zV).reverse := by rw [← hav, List.reverse_reverse]
                      conv => lhs; rw [← List.take_append_drop na stk, e1]
                      rw [List.map_append, List.map_reverse, List.map_cons, List.reverse_cons, List.append_assoc]
                      rfl
                    have hlen : (as.map (zv ad)).length = na - 1 := by
                      have := congrArg List.length hav
                      rw [List.length_reverse, List.length_take, List.length_cons] at this
                      rw [List.length_map]
                      omega
                    rw [hav] at hM hpreS
                    have hrecv : ∃ cell : Cell, H[ad k]? = some cell ∧ cell.vm.isStatics = false ∧ s.vm.findClass (mY callee).cls = some cell.cls := by
                      cases ht : tab k with
                      | inl z =>
                        obtain ⟨ci, fk⟩ := z
                        simp only [zrcv, ht, beq_iff_eq] at g5
                        subst g5
                        have hk : k < N := by
                          rcases Nat.lt_or_ge k N with q | q
                          · exact q
                          · obtain ⟨t, n2, r2, -, e3⟩ := hN k q
                            rw [ht] at e3
                            cases e3
                        rcases v4 with ⟨rfl, -⟩ | ⟨-, q, hq, hq1⟩
                        · exact absurd ht (h99 k fk)
                        · have := va_recv hK hP hq (show (zW tab cI cZ cQ cG ad N h)[k]? = some (ad k, .inr (ci, zfs ad h k fk)) by rw [zW_at hk, zce_obj ht])
                          rw [hq1] at this
                          exact this
                      | inr z =>
                        obtain ⟨t, n2, r2⟩ := z
                        simp only [zrcv, ht, Bool.and_eq_true, beq_iff_eq] at g5
                        obtain ⟨rfl, rfl⟩ := g5
                        rcases v4 with ⟨-, hs⟩ | ⟨q, -⟩
                        · obtain ⟨cell, c1, c2, c3, -⟩ := (hT.2.2.1 k n2 r2 ht).1.kept hS.2.1
                          rw [hs]
                          exact ⟨cell, c1, c2, c3⟩
                        · omega
                    have hrun := va_runV (l := l) (e := e9) (R := R) (below := below) (meth := meth) (locs := locs) (cells := 0) (slots := 0) (nL := mL mid) (As := as.map (zv ad)) (rest := (stk.drop na).map (zv ad)) (g := F0 m pc ls (stk.map (zv ad))) ⟨hx, hb, hml, hown, hts⟩ hM (cwV (na - 1) hts (zgood hALL w1 [.methodLink (mY mid).cls idx (mY callee), .instanceMethod (mY callee), .selects (mY callee).cls (mY callee) (mY callee), .initialized (mY callee).cls] (by
                        intro w hw
                        simp only [List.mem_cons, List.not_mem_nil, or_false] at hw
                        rcases hw with rfl | rfl | rfl | rfl
                        · exact w4
                        · exact v1
                        · exact v2
                        · exact w5)) rfl rfl rfl ⟨rfl, w6, w7, v3⟩ (hroom _ w3)) ⟨zBlindM, hrecv, hpreS⟩ rfl hlen hl.1 hstk (lv_room (by rw [zcat_map]; exact g3)) hdec ⟨Nat.zero_le _, Nat.zero_le _⟩
                    exact z_call hrun hS hfree hfree fin
            case invokestatic idx =>
              simp only [zcl] at hc
              cases hcal : cal mid idx with
              | none => rw [hcal] at hc; cases hc
              | some z =>
                obtain ⟨ce, na, kc⟩ := z
                simp only [hcal] at hc
                split at hc
                case isFalse => cases hc
                case isTrue hg =>
                  cases hc
                  simp only [Bool.and_eq_true, decide_eq_true_eq] at hg
                  obtain ⟨⟨⟨g1, g2⟩, g3⟩, g4⟩ := hg
                  obtain ⟨w1, w3, w4, w5, w6, w7, w8, -⟩ := hC mid idx callee na kc hcal
                  obtain ⟨v1, v2, v9⟩ := w8 g1
                  have hdec : decode (mC mid) pc = .ok (.invokestatic idx, 3) := by
                    rcases hln with q | q
                    · cases q
                    · rw [q] at hdec; exact hdec
                  have hstk : stk.map (zv ad) = (((stk.take na).reverse).map (zv ad)).reverse ++ (stk.drop na).map (zv ad) := by
                    rw [← List.map_reverse, List.reverse_reverse, ← List.map_append, List.take_append_drop]
                  have hlen : (((stk.take na).reverse).map (zv ad)).length = na := by
                    rw [List.length_map, List.length_reverse, List.length_take]
                    omega
                  rcases v9 with w2 | v9
                  case inr =>
                    obtain ⟨e1, hrule⟩ := v9 _ _ _ _ _ _ hr1 (by rw [List.length_reverse, List.length_take]; omega)
                    subst e1
                    rw [hstk]
                    exact hrule hx hb (hml.trans hl.1.symm) hown hts (by omega) (by
                      rw [zcat_map]
                      have := hR.2
                      omega) (Nat.zero_le _) (Nat.zero_le _) hdec (fin _ _ _ _ ⟨rfl, rfl⟩ hP hS)
                  have hM := zMet_of ih hr1 w2 g4 H.size
                  have hrun := va_runS (l := l) (e := e9) (R := R) (below := below) (meth := meth) (locs := locs) (cells := 0) (slots := 0) (nL := mL mid) (As := ((stk.take na).reverse).map (zv ad)) (rest := (stk.drop na).map (zv ad)) (g := F0 m pc ls (stk.map (zv ad))) ⟨hx, hb, hml, hown, hts⟩ hM (va_cwS na hts (zgood hALL w1 [.methodLink (mY mid).cls idx (mY callee), .static (mY callee), .initialized (mY callee).cls] (by
                      intro w hw
                      simp only [List.mem_cons, List.not_mem_nil, or_false] at hw
                      rcases hw with rfl | rfl | rfl
                      · exact w4
                      · exact v1
                      · exact w5)) rfl rfl rfl ⟨w6, w7, v2⟩ (hroom _ w3)) ⟨zBlindM, hpreS⟩ rfl hlen hl.1 hstk (lv_room (by rw [zcat_map]; exact g3)) hdec ⟨Nat.zero_le _, Nat.zero_le _⟩
                  exact z_call hrun hS hfree hfree fin
            all_goals cases hc
      | none =>
        simp only [hc] at e
        cases hz : zend (mR mid) i stk with
        | some r1 =>
          rw [hz] at e
          cases e
          have hdec1 : zlen i = 1 → zSwi i = false → decode (mC mid) pc = .ok (i, 1) := fun q1 q2 => by
            rcases hln with q | q
            · rw [q2] at q; cases q
            · rw [q, q1] at hdec; exact hdec
          rcases zend_el hz with ⟨x, rfl, rfl, hret, rfl⟩ | ⟨x, rfl, rfl, hret, hb01, rfl⟩ | ⟨x, rfl, rfl, hret, hb0, rfl⟩ | ⟨x, rfl, rfl, hret, rfl⟩ | ⟨rfl, rfl, hret, rfl⟩
          · exact W.iret (v := x) hx hb (hr.trans hret) (fun t ht _ => ⟨⟨_, _, rfl, ⟨rfl, rfl⟩, by rw [ht]; exact hP⟩, hS.F ht⟩) hS.2.2 (hdec1 rfl rfl) hlocks
          · exact W.zret (v := x) (ty := .boolean) hx hb (hr.trans hret) (by rcases hb01 with rfl | rfl <;> rfl) (fun t ht _ => ⟨⟨_, _, rfl, ⟨rfl, rfl⟩, by rw [ht]; exact hP⟩, hS.F ht⟩) hS.2.2 (hdec1 rfl rfl) hlocks
          · exact W.zret (v := x) (ty := .byte) hx hb (hr.trans hret) (by rw [hb0]; rfl) (fun t ht _ => ⟨⟨_, _, rfl, ⟨rfl, rfl⟩, by rw [ht]; exact hP⟩, hS.F ht⟩) hS.2.2 (hdec1 rfl rfl) hlocks
          · exact W.lret (v := x) hx hb (hr.trans hret) (fun t ht _ => ⟨⟨_, _, rfl, ⟨rfl, rfl⟩, by rw [ht]; exact hP⟩, hS.F ht⟩) hS.2.2 (hdec1 rfl rfl) hlocks
          · exact W.vret hx hb (hr.trans hret) (fun t ht _ => ⟨⟨_, _, rfl, ⟨rfl, rfl⟩, by rw [ht]; exact hP⟩, hS.F ht⟩) hS.2.2 (hdec1 rfl rfl) hlocks
        | none =>
          rw [hz] at e
          simp only at e
          cases hs : zst tab fld kI kL gst ldS fldS acp mid i pc loc stk h with
          | none => rw [hs] at e; cases e
          | some q =>
            rw [hs] at e
            simp only at e
            have kk : ∀ (pc' : Nat) (loc' : zL) (stk' : List zV) (h2 : zH) (H' : Heap) (locs' : List Loc) (ls' : Array Slot), lv_has ls' (mL mid) (zc ad loc') → va_P (dC, dI) vwCl (zW tab cI cZ cQ cG ad N h2) H' → va_S (zA ad N s.heap.size) s.heap H' locs' → (pc' = q.1 ∧ loc' = q.2.1 ∧ stk' = q.2.2.1 ∧ h2 = q.2.2.2) → W p l e9 R s m args below meth c H' locs' 0 0 (MQ below (zQ tab cI cZ cQ cG dC dI ad N (zA ad N s.heap.size) (fun r2 h2 => r2 = r ∧ h2 = h')) args s 0 0 (zA ad N s.heap.size)) (F0 m pc' ls' (stk'.map (zv ad))) := by
              rintro pc' loc' stk' h2 H' locs' ls' hl' hP' hS' ⟨rfl, rfl, rfl, rfl⟩
              exact ih d mid _ _ _ _ r h' e hx hb hml hr hts hown hK hT hlocks hR hl' hP' hS'
            have hlen : zSwi i = false → decode (mC mid) pc = .ok (i, zlen i) := fun hsw => by
              rcases hln with q9 | q9
              · rw [hsw] at q9; cases q9
              · rw [q9] at hdec; exact hdec
            rcases zst_or hs with f | f | f | f | f
            · exact zst1_sound hx hb (hlen (zf1_ns f)) hok (zf1_h f) hl (zf1_st f (fun a b c d => a = q.1 ∧ b = q.2.1 ∧ c = q.2.2.1 ∧ d = q.2.2.2) ⟨rfl, rfl, rfl, rfl⟩) (fun pc' loc' stk' ls' hl' hk => kk pc' loc' stk' h H locs ls' hl' hP hS hk)
            · exact zst2_sound hx hb hts hown hK o1 hN hlong (hlen (zf2_ns f)) hl hP (hD h) hS (zf2_st f (fun a b c d => a = q.1 ∧ b = q.2.1 ∧ c = q.2.2.1 ∧ d = q.2.2.2) ⟨rfl, rfl, rfl, rfl⟩) (fun pc' loc' stk' h2 H' locs' ls' hl' hP' _ hS' hk => kk pc' loc' stk' h2 H' locs' ls' hl' hP' hS' hk)
            · exact zst4_sound hx hb hdec (by have k9 := zf4_len f hln; clear kk; cases i <;> exact k9) hl (zf4_st f (fun a b c d => a = q.1 ∧ b = q.2.1 ∧ c = q.2.2.1 ∧ d = q.2.2.2) ⟨rfl, rfl, rfl, rfl⟩) (fun pc' loc' stk' ls' hl' hk => kk pc' loc' stk' h H locs ls' hl' hP hS hk)
            · exact zst5_sound hx hb hts hown o2 o3 (hlen (zf5_ns f)) hl (zf5_st f (fun a b c d => a = q.1 ∧ b = q.2.1 ∧ c = q.2.2.1 ∧ d = q.2.2.2) ⟨rfl, rfl, rfl, rfl⟩) (fun pc' loc' stk' ls' hl' hk => kk pc' loc' stk' h H locs ls' hl' hP hS hk)
            · exact zf6_sound hx hb hml hts hown hK hN hT o4 o5 o6 o7 ⟨by omega, by omega⟩ (hlen (zf6_ns f)) hl hP (hD h) hS f (fun H' locs' ls' hl' hP' _ hS' => kk _ _ _ _ H' locs' ls' hl' hP' hS' ⟨rfl, rfl, rfl, rfl⟩)
end ZSNDD
/-! Math's methods, run -/
theorem yz_no {n d mid pc : Nat} {loc : zL} {stk : List zV} {h : zH} {i : Instr} (hi : yPI mid pc = some i) (hc : zcl yTab yMl yCal mid i stk = none) (he : zend (yMr mid) i stk = none) (hs : zst yTab yFld yKI yKL yGst yLdS yFldS yAcp mid i pc loc stk h = none) : yz n d mid pc loc stk h = none := by
  cases n with
  | zero => rfl
  | succ n =>
    show zrun yTab yPI yMl yMr yFld yKI yKL yGst yLdS yFldS yAcp yCal (n + 1) d mid pc loc stk h = _
    rw [zrun]
    simp only [hi, hc, he, hs]
theorem ym22 (x y : Int32) (n d : Nat) (h : zH) : yz (n + 7) d 22 0 (zent 0 [.inl x, .inl y]) [] h = some (some (.inl (if x < y then y else x)), h) := by
  refine (ystp (i := .iload_n 0) (by decide +kernel) rfl rfl (yst_1 rfl)).trans ?_
  refine (ystp (i := .iload_n 1) (by decide +kernel) rfl rfl (yst_1 rfl)).trans ?_
  by_cases c : x < y
  · refine (ystp (i := .if_icmp .lt 7) (pc' := 9) (loc' := zent 0 [.inl x, .inl y]) (stk' := []) (h' := h) (by decide +kernel) rfl rfl (yst_1 (by
      show zgd (decide (0 ≤ ((2 : Nat) : Int) + 7)) (if zk2 .lt x y = true then some (ztgt 2 7, zent 0 [.inl x, .inl y], [], h) else some (2 + 3, zent 0 [.inl x, .inl y], [], h)) = _
      unfold zgd
      rw [if_pos (by decide), if_pos (show zk2 .lt x y = true from decide_eq_true c)]
      all_goals rfl))).trans ?_
    refine (ystp (i := .iload_n 1) (by decide +kernel) rfl rfl (yst_1 rfl)).trans ?_
    rw [if_pos c]
    exact yend (i := .ireturn) (by decide +kernel) rfl rfl
  · refine (ystp (i := .if_icmp .lt 7) (pc' := 5) (loc' := zent 0 [.inl x, .inl y]) (stk' := []) (h' := h) (by decide +kernel) rfl rfl (yst_1 (by
      show zgd (decide (0 ≤ ((2 : Nat) : Int) + 7)) (if zk2 .lt x y = true then some (ztgt 2 7, zent 0 [.inl x, .inl y], [], h) else some (2 + 3, zent 0 [.inl x, .inl y], [], h)) = _
      unfold zgd
      rw [if_pos (by decide), if_neg (show ¬ zk2 .lt x y = true from fun e => c (of_decide_eq_true e))]
      all_goals rfl))).trans ?_
    refine (ystp (i := .iload_n 0) (by decide +kernel) rfl rfl (yst_1 rfl)).trans ?_
    refine (ystp (i := .goto 4) (by decide +kernel) rfl rfl (yst_1 rfl)).trans ?_
    rw [if_neg c]
    exact yend (i := .ireturn) (by decide +kernel) rfl rfl
theorem ym22_inv {n d : Nat} {av : List zV} {h : zH} {r : Option zV} {h' : zH} (hlen : av.length = 2) (e : yz n d 22 0 (zent 0 av) [] h = some (r, h')) : ∃ x y : Int32, av = [.inl x, .inl y] ∧ h' = h ∧ r = some (.inl (if x < y then y else x)) := by
  match av, hlen with
  | [.inl x, .inl y], _ =>
    have k := yrun_u (d := d) (mid := 22) (args := [.inl x, .inl y]) e (ym22 x y 0 d h)
    cases k
    exact ⟨x, y, rfl, rfl, rfl⟩
  | [.inr z, v], _ =>
    rw [yz_no (i := .iload_n 0) (by decide +kernel) rfl rfl rfl] at e
    cases e
  | [.inl x, .inr z], _ =>
    cases n with
    | zero => cases e
    | succ n =>
      rw [ystp (i := .iload_n 0) (pc' := 1) (loc' := zent 0 [.inl x, .inr z]) (stk' := [.inl x]) (h' := h) (by decide +kernel) rfl rfl (yst_1 rfl), yz_no (i := .iload_n 1) (by decide +kernel) rfl rfl rfl] at e
      cases e
theorem ym24 (x y : Int32) (n d : Nat) (h : zH) : yz (n + 7) d 24 0 (zent 0 [.inl x, .inl y]) [] h = some (some (.inl (if y < x then y else x)), h) := by
  refine (ystp (i := .iload_n 0) (by decide +kernel) rfl rfl (yst_1 rfl)).trans ?_
  refine (ystp (i := .iload_n 1) (by decide +kernel) rfl rfl (yst_1 rfl)).trans ?_
  by_cases c : y < x
  · refine (ystp (i := .if_icmp .gt 7) (pc' := 9) (loc' := zent 0 [.inl x, .inl y]) (stk' := []) (h' := h) (by decide +kernel) rfl rfl (yst_1 (by
      show zgd (decide (0 ≤ ((2 : Nat) : Int) + 7)) (if zk2 .gt x y = true then some (ztgt 2 7, zent 0 [.inl x, .inl y], [], h) else some (2 + 3, zent 0 [.inl x, .inl y], [], h)) = _
      unfold zgd
      rw [if_pos (by decide), if_pos (show zk2 .gt x y = true from decide_eq_true c)]
      all_goals rfl))).trans ?_
    refine (ystp (i := .iload_n 1) (by decide +kernel) rfl rfl (yst_1 rfl)).trans ?_
    rw [if_pos c]
    exact yend (i := .ireturn) (by decide +kernel) rfl rfl
  · refine (ystp (i := .if_icmp .gt 7) (pc' := 5) (loc' := zent 0 [.inl x, .inl y]) (stk' := []) (h' := h) (by decide +kernel) rfl rfl (yst_1 (by
      show zgd (decide (0 ≤ ((2 : Nat) : Int) + 7)) (if zk2 .gt x y = true then some (ztgt 2 7, zent 0 [.inl x, .inl y], [], h) else some (2 + 3, zent 0 [.inl x, .inl y], [], h)) = _
      unfold zgd
      rw [if_pos (by decide), if_neg (show ¬ zk2 .gt x y = true from fun e => c (of_decide_eq_true e))]
      all_goals rfl))).trans ?_
    refine (ystp (i := .iload_n 0) (by decide +kernel) rfl rfl (yst_1 rfl)).trans ?_
    refine (ystp (i := .goto 4) (by decide +kernel) rfl rfl (yst_1 rfl)).trans ?_
    rw [if_neg c]
    exact yend (i := .ireturn) (by decide +kernel) rfl rfl
theorem ym24_inv {n d : Nat} {av : List zV} {h : zH} {r : Option zV} {h' : zH} (hlen : av.length = 2) (e : yz n d 24 0 (zent 0 av) [] h = some (r, h')) : ∃ x y : Int32, av = [.inl x, .inl y] ∧ h' = h ∧ r = some (.inl (if y < x then y else x)) := by
  match av, hlen with
  | [.inl x, .inl y], _ =>
    have k := yrun_u (d := d) (mid := 24) (args := [.inl x, .inl y]) e (ym24 x y 0 d h)
    cases k
    exact ⟨x, y, rfl, rfl, rfl⟩
  | [.inr z, v], _ =>
    rw [yz_no (i := .iload_n 0) (by decide +kernel) rfl rfl rfl] at e
    cases e
  | [.inl x, .inr z], _ =>
    cases n with
    | zero => cases e
    | succ n =>
      rw [ystp (i := .iload_n 0) (pc' := 1) (loc' := zent 0 [.inl x, .inr z]) (stk' := [.inl x]) (h' := h) (by decide +kernel) rfl rfl (yst_1 rfl), yz_no (i := .iload_n 1) (by decide +kernel) rfl rfl rfl] at e
      cases e
theorem ym23 (x y : Int64) (n d : Nat) (h : zH) : yz (n + 8) d 23 0 (zent 0 [.inr (.inl x), .inr (.inl y)]) [] h = some (some (.inr (.inl (if x < y then y else x))), h) := by
  refine (ystp (i := .lload_n 0) (by decide +kernel) rfl rfl (yst_1 rfl)).trans ?_
  refine (ystp (i := .lload_n 2) (by decide +kernel) rfl rfl (yst_1 rfl)).trans ?_
  refine (ystp (i := .lcmp) (by decide +kernel) rfl rfl rfl).trans ?_
  by_cases c : x < y
  · refine (ystp (i := .ifCond .lt 7) (pc' := 10) (loc' := zent 0 [.inr (.inl x), .inr (.inl y)]) (stk' := []) (h' := h) (by decide +kernel) rfl rfl (yst_1 (by
      show zgd (decide (0 ≤ ((3 : Nat) : Int) + 7)) (if zk1 .lt (lg_cmp x y) = true then some (ztgt 3 7, zent 0 [.inr (.inl x), .inr (.inl y)], [], h) else some (3 + 3, zent 0 [.inr (.inl x), .inr (.inl y)], [], h)) = _
      unfold zgd
      rw [if_pos (by decide), if_pos (show zk1 .lt (lg_cmp x y) = true from decide_eq_true ((lg_cmp_lt x y).mpr c))]
      all_goals rfl))).trans ?_
    refine (ystp (i := .lload_n 2) (by decide +kernel) rfl rfl (yst_1 rfl)).trans ?_
    rw [if_pos c]
    exact yend (i := .lreturn) (by decide +kernel) rfl rfl
  · refine (ystp (i := .ifCond .lt 7) (pc' := 6) (loc' := zent 0 [.inr (.inl x), .inr (.inl y)]) (stk' := []) (h' := h) (by decide +kernel) rfl rfl (yst_1 (by
      show zgd (decide (0 ≤ ((3 : Nat) : Int) + 7)) (if zk1 .lt (lg_cmp x y) = true then some (ztgt 3 7, zent 0 [.inr (.inl x), .inr (.inl y)], [], h) else some (3 + 3, zent 0 [.inr (.inl x), .inr (.inl y)], [], h)) = _
      unfold zgd
      rw [if_pos (by decide), if_neg (show ¬ zk1 .lt (lg_cmp x y) = true from fun e => c ((lg_cmp_lt x y).mp (of_decide_eq_true e)))]
      all_goals rfl))).trans ?_
    refine (ystp (i := .lload_n 0) (by decide +kernel) rfl rfl (yst_1 rfl)).trans ?_
    refine (ystp (i := .goto 4) (by decide +kernel) rfl rfl (yst_1 rfl)).trans ?_
    rw [if_neg c]
    exact yend (i := .lreturn) (by decide +kernel) rfl rfl
theorem ym23_inv {n d : Nat} {av : List zV} {h : zH} {r : Option zV} {h' : zH} (hlen : av.length = 2) (e : yz n d 23 0 (zent 0 av) [] h = some (r, h')) : ∃ x y : Int64, av = [.inr (.inl x), .inr (.inl y)] ∧ h' = h ∧ r = some (.inr (.inl (if x < y then y else x))) := by
  match av, hlen with
  | [.inr (.inl x), .inr (.inl y)], _ =>
    have k := yrun_u (d := d) (mid := 23) (args := [.inr (.inl x), .inr (.inl y)]) e (ym23 x y 0 d h)
    cases k
    exact ⟨x, y, rfl, rfl, rfl⟩
  | [.inl z, v], _ =>
    rw [yz_no (i := .lload_n 0) (by decide +kernel) rfl rfl rfl] at e
    cases e
  | [.inr (.inr z), v], _ =>
    rw [yz_no (i := .lload_n 0) (by decide +kernel) rfl rfl rfl] at e
    cases e
  | [.inr (.inl x), .inl z], _ =>
    cases n with
    | zero => cases e
    | succ n =>
      rw [ystp (i := .lload_n 0) (pc' := 1) (loc' := zent 0 [.inr (.inl x), .inl z]) (stk' := [.inr (.inl x)]) (h' := h) (by decide +kernel) rfl rfl (yst_1 rfl), yz_no (i := .lload_n 2) (by decide +kernel) rfl rfl rfl] at e
      cases e
  | [.inr (.inl x), .inr (.inr z)], _ =>
    cases n with
    | zero => cases e
    | succ n =>
      rw [ystp (i := .lload_n 0) (pc' := 1) (loc' := zent 0 [.inr (.inl x), .inr (.inr z)]) (stk' := [.inr (.inl x)]) (h' := h) (by decide +kernel) rfl rfl (yst_1 rfl), yz_no (i := .lload_n 2) (by decide +kernel) rfl rfl rfl] at e
      cases e
theorem ym25 (x y : Int64) (n d : Nat) (h : zH) : yz (n + 8) d 25 0 (zent 0 [.inr (.inl x), .inr (.inl y)]) [] h = some (some (.inr (.inl (if y < x then y else x))), h) := by
  refine (ystp (i := .lload_n 0) (by decide +kernel) rfl rfl (yst_1 rfl)).trans ?_
  refine (ystp (i := .lload_n 2) (by decide +kernel) rfl rfl (yst_1 rfl)).trans ?_
  refine (ystp (i := .lcmp) (by decide +kernel) rfl rfl rfl).trans ?_
  by_cases c : y < x
  · refine (ystp (i := .ifCond .gt 7) (pc' := 10) (loc' := zent 0 [.inr (.inl x), .inr (.inl y)]) (stk' := []) (h' := h) (by decide +kernel) rfl rfl (yst_1 (by
      show zgd (decide (0 ≤ ((3 : Nat) : Int) + 7)) (if zk1 .gt (lg_cmp x y) = true then some (ztgt 3 7, zent 0 [.inr (.inl x), .inr (.inl y)], [], h) else some (3 + 3, zent 0 [.inr (.inl x), .inr (.inl y)], [], h)) = _
      unfold zgd
      rw [if_pos (by decide), if_pos (show zk1 .gt (lg_cmp x y) = true from decide_eq_true ((lg_cmp_gt x y).mpr c))]
      all_goals rfl))).trans ?_
    refine (ystp (i := .lload_n 2) (by decide +kernel) rfl rfl (yst_1 rfl)).trans ?_
    rw [if_pos c]
    exact yend (i := .lreturn) (by decide +kernel) rfl rfl
  · refine (ystp (i := .ifCond .gt 7) (pc' := 6) (loc' := zent 0 [.inr (.inl x), .inr (.inl y)]) (stk' := []) (h' := h) (by decide +kernel) rfl rfl (yst_1 (by
      show zgd (decide (0 ≤ ((3 : Nat) : Int) + 7)) (if zk1 .gt (lg_cmp x y) = true then some (ztgt 3 7, zent 0 [.inr (.inl x), .inr (.inl y)], [], h) else some (3 + 3, zent 0 [.inr (.inl x), .inr (.inl y)], [], h)) = _
      unfold zgd
      rw [if_pos (by decide), if_neg (show ¬ zk1 .gt (lg_cmp x y) = true from fun e => c ((lg_cmp_gt x y).mp (of_decide_eq_true e)))]
      all_goals rfl))).trans ?_
    refine (ystp (i := .lload_n 0) (by decide +kernel) rfl rfl (yst_1 rfl)).trans ?_
    refine (ystp (i := .goto 4) (by decide +kernel) rfl rfl (yst_1 rfl)).trans ?_
    rw [if_neg c]
    exact yend (i := .lreturn) (by decide +kernel) rfl rfl
theorem ym25_inv {n d : Nat} {av : List zV} {h : zH} {r : Option zV} {h' : zH} (hlen : av.length = 2) (e : yz n d 25 0 (zent 0 av) [] h = some (r, h')) : ∃ x y : Int64, av = [.inr (.inl x), .inr (.inl y)] ∧ h' = h ∧ r = some (.inr (.inl (if y < x then y else x))) := by
  match av, hlen with
  | [.inr (.inl x), .inr (.inl y)], _ =>
    have k := yrun_u (d := d) (mid := 25) (args := [.inr (.inl x), .inr (.inl y)]) e (ym25 x y 0 d h)
    cases k
    exact ⟨x, y, rfl, rfl, rfl⟩
  | [.inl z, v], _ =>
    rw [yz_no (i := .lload_n 0) (by decide +kernel) rfl rfl rfl] at e
    cases e
  | [.inr (.inr z), v], _ =>
    rw [yz_no (i := .lload_n 0) (by decide +kernel) rfl rfl rfl] at e
    cases e
  | [.inr (.inl x), .inl z], _ =>
    cases n with
    | zero => cases e
    | succ n =>
      rw [ystp (i := .lload_n 0) (pc' := 1) (loc' := zent 0 [.inr (.inl x), .inl z]) (stk' := [.inr (.inl x)]) (h' := h) (by decide +kernel) rfl rfl (yst_1 rfl), yz_no (i := .lload_n 2) (by decide +kernel) rfl rfl rfl] at e
      cases e
  | [.inr (.inl x), .inr (.inr z)], _ =>
    cases n with
    | zero => cases e
    | succ n =>
      rw [ystp (i := .lload_n 0) (pc' := 1) (loc' := zent 0 [.inr (.inl x), .inr (.inr z)]) (stk' := [.inr (.inl x)]) (h' := h) (by decide +kernel) rfl rfl (yst_1 rfl), yz_no (i := .lload_n 2) (by decide +kernel) rfl rfl rfl] at e
      cases e
theorem ym21 (x : Int32) (n d : Nat) (h : zH) : yz (n + 7) d 21 0 (zent 0 [.inl x]) [] h = some (some (.inl (if 0 ≤ x then x else -x)), h) := by
  refine (ystp (i := .iload_n 0) (by decide +kernel) rfl rfl (yst_1 rfl)).trans ?_
  by_cases c : 0 ≤ x
  · refine (ystp (i := .ifCond .ge 8) (pc' := 9) (loc' := zent 0 [.inl x]) (stk' := []) (h' := h) (by decide +kernel) rfl rfl (yst_1 (by
      show zgd (decide (0 ≤ ((1 : Nat) : Int) + 8)) (if zk1 .ge x = true then some (ztgt 1 8, zent 0 [.inl x], [], h) else some (1 + 3, zent 0 [.inl x], [], h)) = _
      unfold zgd
      rw [if_pos (by decide), if_pos (show zk1 .ge x = true from decide_eq_true c)]
      rfl))).trans ?_
    refine (ystp (i := .iload_n 0) (by decide +kernel) rfl rfl (yst_1 rfl)).trans ?_
    rw [if_pos c]
    exact yend (i := .ireturn) (by decide +kernel) rfl rfl
  · refine (ystp (i := .ifCond .ge 8) (pc' := 4) (loc' := zent 0 [.inl x]) (stk' := []) (h' := h) (by decide +kernel) rfl rfl (yst_1 (by
      show zgd (decide (0 ≤ ((1 : Nat) : Int) + 8)) (if zk1 .ge x = true then some (ztgt 1 8, zent 0 [.inl x], [], h) else some (1 + 3, zent 0 [.inl x], [], h)) = _
      unfold zgd
      rw [if_pos (by decide), if_neg (show ¬ zk1 .ge x = true from fun e => c (of_decide_eq_true e))]))).trans ?_
    refine (ystp (i := .iload_n 0) (by decide +kernel) rfl rfl (yst_1 rfl)).trans ?_
    refine (ystp (i := .ineg) (by decide +kernel) rfl rfl (yst_1 rfl)).trans ?_
    refine (ystp (i := .goto 4) (by decide +kernel) rfl rfl (yst_1 rfl)).trans ?_
    rw [if_neg c]
    exact yend (i := .ireturn) (by decide +kernel) rfl rfl
theorem ym21_inv {n d : Nat} {av : List zV} {h : zH} {r : Option zV} {h' : zH} (hlen : av.length = 1) (e : yz n d 21 0 (zent 0 av) [] h = some (r, h')) : ∃ x : Int32, av = [.inl x] ∧ h' = h ∧ r = some (.inl (if 0 ≤ x then x else -x)) := by
  match av, hlen with
  | [.inl x], _ =>
    have k := yrun_u (d := d) (mid := 21) (args := [.inl x]) e (ym21 x 0 d h)
    cases k
    exact ⟨x, rfl, rfl, rfl⟩
  | [.inr z], _ =>
    rw [yz_no (i := .iload_n 0) (by decide +kernel) rfl rfl rfl] at e
    cases e
/-! their rules -/
theorem ymn21 : yMY 21 = Lib.Math.abs.name ∧ yMC 21 = Lib.Math.abs.code ∧ yMl 21 = 1 ∧ yMr 21 = some .int ∧ (yMY 21).cls = "java/lang/Math" := by decide +kernel
theorem yMa21 {l : Launch} {ad : Nat → Nat} {own : String} {idx : Nat} (hc : Cond.code (yMY 21) (yMC 21) (yMl 21) (yMr 21) ∈ yALL) (hlk : Cond.methodLink own idx (yMY 21) ∈ yALL) (hi : Cond.initialized (yMY 21).cls ∈ yALL) (hs : Cond.static (yMY 21) ∈ yALL) : zMaR l yTab yPI yMY yMC yMl yMr yFld yKI yKL yGst yLdS yFldS yAcp yCal ad yALL own idx 21 1 := by
  obtain ⟨e1, e2, e3, e4, e5⟩ := ymn21
  rw [e2, e3, e4, e1] at hc
  rw [e5] at hi
  rw [e1] at hlk hs
  intro n d av h r1 h1 e hlen
  obtain ⟨x, rfl, rfl, rfl⟩ := ym21_inv hlen e
  refine ⟨rfl, fun hx hb hml hown hts hfr hlo hcl hsl hdg kk => ?_⟩
  have e9 : (if 0 ≤ x then x else -x) = (if 0 ≤ x then x else 0 - x) := by
    split
    · rfl
    · exact (Int32.zero_sub _).symm
  rw [e9] at kk
  exact va_mabs hx hb hml hown (hts _ hlk) (hts _ hs) (hts _ hi) (hts _ hc) hfr (Nat.le_trans (Nat.add_le_add_left (show 13 ≤ 15 by decide) _) hlo) hcl hsl hdg kk
theorem ymn22 : yMY 22 = Lib.Math.max.name ∧ yMC 22 = Lib.Math.max.code ∧ yMl 22 = 2 ∧ yMr 22 = some .int ∧ (yMY 22).cls = "java/lang/Math" := by decide +kernel
theorem yMa22 {l : Launch} {ad : Nat → Nat} {own : String} {idx : Nat} (hc : Cond.code (yMY 22) (yMC 22) (yMl 22) (yMr 22) ∈ yALL) (hlk : Cond.methodLink own idx (yMY 22) ∈ yALL) (hi : Cond.initialized (yMY 22).cls ∈ yALL) (hs : Cond.static (yMY 22) ∈ yALL) : zMaR l yTab yPI yMY yMC yMl yMr yFld yKI yKL yGst yLdS yFldS yAcp yCal ad yALL own idx 22 2 := by
  obtain ⟨e1, e2, e3, e4, e5⟩ := ymn22
  rw [e2, e3, e4, e1] at hc
  rw [e5] at hi
  rw [e1] at hlk hs
  intro n d av h r1 h1 e hlen
  obtain ⟨x, y, rfl, rfl, rfl⟩ := ym22_inv hlen e
  refine ⟨rfl, fun hx hb hml hown hts hfr hlo hcl hsl hdg kk => ?_⟩
  exact va_mmax hx hb hml hown (hts _ hlk) (hts _ hs) (hts _ hi) (hts _ hc) hfr (Nat.le_trans (Nat.add_le_add_left (show 13 ≤ 15 by decide) _) hlo) hcl hsl hdg kk
theorem ymn23 : yMY 23 = Lib.MathLoose.max_long.x ∧ yMC 23 = Lib.MathLoose.max_long.code ∧ yMl 23 = 4 ∧ yMr 23 = some .long ∧ (yMY 23).cls = "java/lang/Math" := by decide +kernel
theorem yMa23 {l : Launch} {ad : Nat → Nat} {own : String} {idx : Nat} (hc : Cond.code (yMY 23) (yMC 23) (yMl 23) (yMr 23) ∈ yALL) (hlk : Cond.methodLink own idx (yMY 23) ∈ yALL) (hi : Cond.initialized (yMY 23).cls ∈ yALL) (hs : Cond.static (yMY 23) ∈ yALL) : zMaR l yTab yPI yMY yMC yMl yMr yFld yKI yKL yGst yLdS yFldS yAcp yCal ad yALL own idx 23 2 := by
  obtain ⟨e1, e2, e3, e4, e5⟩ := ymn23
  rw [e2, e3, e4, e1] at hc
  rw [e5] at hi
  rw [e1] at hlk hs
  intro n d av h r1 h1 e hlen
  obtain ⟨x, y, rfl, rfl, rfl⟩ := ym23_inv hlen e
  refine ⟨rfl, fun hx hb hml hown hts hfr hlo hcl hsl hdg kk => ?_⟩
  have e9 : (if x < y then y else x) = (if y < x then x else y) := by
    by_cases c1 : x < y
    · rw [if_pos c1, if_neg (fun c2 => by rw [Int64.lt_iff_toInt_lt] at c1 c2; omega)]
    · rw [if_neg c1]
      by_cases c2 : y < x
      · rw [if_pos c2]
      · rw [if_neg c2]
        apply Int64.toInt_inj.mp
        rw [Int64.lt_iff_toInt_lt] at c1 c2
        omega
  rw [e9] at kk
  exact va_mmax_long hx hb hml hown (hts _ hlk) (hts _ hs) (hts _ hi) (hts _ hc) hfr hlo hcl hsl hdg kk
theorem ymn24 : yMY 24 = Lib.Math.min.name ∧ yMC 24 = Lib.Math.min.code ∧ yMl 24 = 2 ∧ yMr 24 = some .int ∧ (yMY 24).cls = "java/lang/Math" := by decide +kernel
theorem yMa24 {l : Launch} {ad : Nat → Nat} {own : String} {idx : Nat} (hc : Cond.code (yMY 24) (yMC 24) (yMl 24) (yMr 24) ∈ yALL) (hlk : Cond.methodLink own idx (yMY 24) ∈ yALL) (hi : Cond.initialized (yMY 24).cls ∈ yALL) (hs : Cond.static (yMY 24) ∈ yALL) : zMaR l yTab yPI yMY yMC yMl yMr yFld yKI yKL yGst yLdS yFldS yAcp yCal ad yALL own idx 24 2 := by
  obtain ⟨e1, e2, e3, e4, e5⟩ := ymn24
  rw [e2, e3, e4, e1] at hc
  rw [e5] at hi
  rw [e1] at hlk hs
  intro n d av h r1 h1 e hlen
  obtain ⟨x, y, rfl, rfl, rfl⟩ := ym24_inv hlen e
  refine ⟨rfl, fun hx hb hml hown hts hfr hlo hcl hsl hdg kk => ?_⟩
  exact va_mmin hx hb hml hown (hts _ hlk) (hts _ hs) (hts _ hi) (hts _ hc) hfr (Nat.le_trans (Nat.add_le_add_left (show 13 ≤ 15 by decide) _) hlo) hcl hsl hdg kk
theorem ymn25 : yMY 25 = Lib.MathLoose.min_long.x ∧ yMC 25 = Lib.MathLoose.min_long.code ∧ yMl 25 = 4 ∧ yMr 25 = some .long ∧ (yMY 25).cls = "java/lang/Math" := by decide +kernel
theorem yMa25 {l : Launch} {ad : Nat → Nat} {own : String} {idx : Nat} (hc : Cond.code (yMY 25) (yMC 25) (yMl 25) (yMr 25) ∈ yALL) (hlk : Cond.methodLink own idx (yMY 25) ∈ yALL) (hi : Cond.initialized (yMY 25).cls ∈ yALL) (hs : Cond.static (yMY 25) ∈ yALL) : zMaR l yTab yPI yMY yMC yMl yMr yFld yKI yKL yGst yLdS yFldS yAcp yCal ad yALL own idx 25 2 := by
  obtain ⟨e1, e2, e3, e4, e5⟩ := ymn25
  rw [e2, e3, e4, e1] at hc
  rw [e5] at hi
  rw [e1] at hlk hs
  intro n d av h r1 h1 e hlen
  obtain ⟨x, y, rfl, rfl, rfl⟩ := ym25_inv hlen e
  refine ⟨rfl, fun hx hb hml hown hts hfr hlo hcl hsl hdg kk => ?_⟩
  exact va_mmin_long hx hb hml hown (hts _ hlk) (hts _ hs) (hts _ hi) (hts _ hc) hfr hlo hcl hsl hdg kk
theorem yOk_D {l : Launch} {ad : Nat → Nat} : zOkD l yTab yPI yMY yMC yMl yMr yFld yKI yKL yGst yLdS yFldS yAcp yCal ad yALL := by
  intro mid idx callee na kc h
  obtain ⟨h1, h2⟩ := yCa_fnd h
  obtain ⟨q, hq⟩ := ytabk_in yCa_ok h1 h2
  rw [Bool.and_eq_true] at hq
  have hlk : Cond.methodLink (yCn (yMc mid)) idx (yMY callee) ∈ yALL := yhas_in hq.1
  rw [yCls_mid (L := yCnL) rfl h1 rfl]
  obtain ⟨z, hz, hz2⟩ := List.any_eq_true.mp hq.2
  simp only [Bool.and_eq_true, decide_eq_true_eq] at hz2
  have hc := yCe_all z hz
  rw [hz2.1, hz2.2.1, hz2.2.2] at hc
  unfold yCeF at hc
  simp only [Bool.and_eq_true, Bool.or_eq_true, decide_eq_true_eq] at hc
  obtain ⟨-, c1, c2, c3, c4, c5, c6, c7⟩ := hc
  refine ⟨yhas_in c1, c3, hlk, yhas_in c4, c5, c6, fun hk => ?_, fun hk => ?_⟩
  · rw [if_pos hk] at c7
    simp only [Bool.and_eq_true, decide_eq_true_eq] at c7
    refine ⟨yhas_in c7.1, c7.2, ?_⟩
    rcases c2 with c2 | ⟨-, d1, d2⟩
    · exact Or.inl c2
    · refine Or.inr ?_
      have p9 := c7.2
      rcases (show callee = 21 ∨ callee = 22 ∨ callee = 23 ∨ callee = 24 ∨ callee = 25 by omega) with rfl | rfl | rfl | rfl | rfl
      · obtain rfl : na = 1 := Option.some.inj (p9.symm.trans (by decide +kernel))
        exact yMa21 (yhas_in c1) hlk (yhas_in c4) (yhas_in c7.1)
      · obtain rfl : na = 2 := Option.some.inj (p9.symm.trans (by decide +kernel))
        exact yMa22 (yhas_in c1) hlk (yhas_in c4) (yhas_in c7.1)
      · obtain rfl : na = 2 := Option.some.inj (p9.symm.trans (by decide +kernel))
        exact yMa23 (yhas_in c1) hlk (yhas_in c4) (yhas_in c7.1)
      · obtain rfl : na = 2 := Option.some.inj (p9.symm.trans (by decide +kernel))
        exact yMa24 (yhas_in c1) hlk (yhas_in c4) (yhas_in c7.1)
      · obtain rfl : na = 2 := Option.some.inj (p9.symm.trans (by decide +kernel))
        exact yMa25 (yhas_in c1) hlk (yhas_in c4) (yhas_in c7.1)
  · rw [if_neg (by omega)] at c7
    simp only [Bool.and_eq_true, decide_eq_true_eq] at c7
    obtain ⟨d1, d2, d3, d4, d5⟩ := c7
    have hpl : plainName (yMY callee).cls = true := by
      rcases c2 with c2 | ⟨d1, -⟩
      · exact c2
      · omega
    refine ⟨hpl, d1, yhas_in d2, yhas_in d3, d4, ?_⟩
    split at d5
    case isTrue h99 => exact Or.inl ⟨h99, of_decide_eq_true d5⟩
    case isFalse h99 =>
      rw [Bool.and_eq_true] at d5
      refine Or.inr ⟨of_decide_eq_true d5.1, ?_⟩
      have d6 := d5.2
      split at d6
      case h_1 q9 hq9 => exact ⟨q9, hq9, of_decide_eq_true d6⟩
      case h_2 => cases d6
