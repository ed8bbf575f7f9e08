/-! soundness of the run -/
section ZSND2
variable {tab : Nat → (Nat × List Nat) ⊕ (Nat × Nat × List Nat)} {pI : Nat → Nat → Option Instr} {mY : Nat → MethodName} {mC : Nat → ByteArray} {mL : Nat → Nat} {mR : Nat → Option FieldType} {fld : Nat → Nat → Option (Nat × Nat × Nat)} {kI : Nat → Nat → Option Int32} {kL : Nat → Nat → Option Int64} {gst : Nat → Nat → Option zV} {ldS fldS : Nat → Nat → Option Nat} {acp : Nat → Nat → Bool} {cal : Nat → Nat → Option (Nat × Nat × Nat)}
variable {cI cZ cQ cG : ClassId} {dC : Nat → ClassId} {dI : Nat → Nat → Nat} {ad : Nat → Nat} {N : Nat} {ALL : List Cond} {gl : List (String × String × String × zV)} {sl : List (String × Nat × String × Nat)} {l : Launch}
/-- the run's words for the machine below, n steps -/
def zWn (l : Launch) (tab : Nat → (Nat × List Nat) ⊕ (Nat × Nat × List Nat)) (pI : Nat → Nat → Option Instr) (mY : Nat → MethodName) (mC : Nat → ByteArray) (mL : Nat → Nat) (mR : Nat → Option FieldType) (fld : Nat → Nat → Option (Nat × Nat × Nat)) (kI : Nat → Nat → Option Int32) (kL : Nat → Nat → Option Int64) (gst : Nat → Nat → Option zV) (ldS fldS : Nat → Nat → Option Nat) (acp : Nat → Nat → Bool) (cal : Nat → Nat → Option (Nat × Nat × Nat)) (cI cZ cQ cG : ClassId) (dC : Nat → ClassId) (dI : Nat → Nat → Nat) (ad : Nat → Nat) (N : Nat) (ALL : List Cond) (gl : List (String × String × String × zV)) (sl : List (String × Nat × String × Nat)) (n : Nat) : Prop :=
  ∀ (d mid pc : Nat) (loc : zL) (stk : List zV) (h : zH) (r : Option zV) (h' : zH), zrun tab pI mL mR fld kI kL gst ldS fldS acp cal n d mid pc loc stk h = some (r, h') →
  ∀ {p : Program} {e : Env} {R : Room} {s : State} {m : MethodId} {args : Array Value} {below : List Frame} {meth : Method} {c : Code} {H : Heap} {locs : List Loc} {ls : Array Slot}, p.tables.exec = Jvm.exec → c.code = mC mid → c.maxLocals = mL mid → meth.sig.returnType = mR mid → (∀ w ∈ ALL, w.before args s = true) → s.vm.findClass (mY mid).cls = some m.cls → va_K (dC, dI) vwCl (zTy cI cZ cQ cG) s → zTT tab gl sl ad (zA ad N s.heap.size) s s.heap → meth.locks = false → d + 1 ≤ R.frames ∧ 40 * d + 200 ≤ R.locals →
    lv_has ls (mL mid) (zc ad loc) → va_P (dC, dI) vwCl (zW tab cI cZ cQ cG ad N h) H → va_S (zA ad N s.heap.size) s.heap H locs →
    W p l e R s m args below meth c H locs 0 0 (MQ below (zQ tab cI cZ cQ cG dC dI ad N (zA ad N s.heap.size) (fun r2 h2 => r2 = r ∧ h2 = h')) args s 0 0 (zA ad N s.heap.size)) (F0 m pc ls (stk.map (zv ad)))
theorem zMet_of {n : Nat} (hW : zWn l tab pI mY mC mL mR fld kI kL gst ldS fldS acp cal cI cZ cQ cG dC dI ad N ALL gl sl n) {d mid : Nat} {av : List zV} {h : zH} {r : Option zV} {h' : zH} (e : zrun tab pI mL mR fld kI kL gst ldS fldS acp cal n d mid 0 (zent 0 av) [] h = some (r, h')) (hpl : plainName (mY mid).cls = true) (hsum : (av.map zcat).sum ≤ mL mid) (sz : Nat) :
    Met l (mY mid) (zwsM mY mC mL mR ALL mid) (zrm d) (va_Pc (av.map (zv ad)) (zPreM tab gl sl cI cZ cQ cG dC dI ad N sz h)) (zQ tab cI cZ cQ cG dC dI ad N (zA ad N sz) (fun r2 h2 => r2 = r ∧ h2 = h')) 0 0 (zA ad N sz) := by
  refine Met.ofW (cc := mC mid) (maxL := mL mid) (ret := mR mid) hpl rfl ?_
  intro p e9 s m args below meth c s₁ B hml hv
  obtain ⟨rfl, hsz, hP, hK, hT⟩ := hv
  subst hsz
  have hts := atoms_spec (ws := zwsM mY mC mL mR ALL mid) B.pre
  have hl := lv_entry (av.map (zv ad)) (n := mL mid) (by rw [zlgsl]; exact hsum)
  rw [lg_entry_eq]
  generalize (lg_sl (av.map (zv ad)) ++ List.replicate (mL mid - (lg_sl (av.map (zv ad))).length) Slot.unset).toArray = ls at hl ⊢
  rw [zent_c] at hl
  exact hW d mid 0 (zent 0 av) [] h r h' e B.exec B.bytes hml B.returns (fun w hw => hts w (List.mem_cons_of_mem _ hw)) (findClass_of_methodNamed B.named) hK hT B.notSynchronized ⟨Nat.le_refl _, Nat.le_refl _⟩ hl hP va_S.rf
theorem zgood {big : List Cond} {y : MethodName} {cd : ByteArray} {mx : Nat} {rt : Option FieldType} (hALL : ∀ w ∈ big, goodWord w = true) (hc : Cond.code y cd mx rt ∈ big) (pre : List Cond) (hp : ∀ w ∈ pre, w ∈ big) : GoodIn big (pre ++ (Cond.code y cd mx rt :: big)) := by
  intro w hw
  have hm : w ∈ big := by
    rcases List.mem_append.mp hw with h | h
    · exact hp w h
    · rcases List.mem_cons.mp h with h | h
      · rw [h]; exact hc
      · exact h
  exact ⟨hm, good_of_word (hALL w hm)⟩
theorem zend_el {ret : Option FieldType} {i : Instr} {stk : List zV} {r : Option zV} (e : zend ret i stk = some r) : (∃ x, i = .ireturn ∧ stk = [.inl x] ∧ ret = some .int ∧ r = some (.inl x)) ∨ (∃ x, i = .ireturn ∧ stk = [.inl x] ∧ ret = some .boolean ∧ (x = 0 ∨ x = 1) ∧ r = some (.inl x)) ∨ (∃ x, i = .ireturn ∧ stk = [.inl x] ∧ ret = some .byte ∧ x = 0 ∧ r = some (.inl x)) ∨ (∃ x, i = .lreturn ∧ stk = [.inr (.inl x)] ∧ ret = some .long ∧ r = some (.inr (.inl x))) ∨ (i = .return_ ∧ stk = [] ∧ ret = none ∧ r = none) := by
  unfold zend at e
  split at e
  · exact Or.inl ⟨_, rfl, rfl, rfl, (Option.some.inj e).symm⟩
  · split at e
    · exact Or.inr (Or.inl ⟨_, rfl, rfl, rfl, by assumption, (Option.some.inj e).symm⟩)
    · cases e
  · split at e
    · exact Or.inr (Or.inr (Or.inl ⟨_, rfl, rfl, rfl, by assumption, (Option.some.inj e).symm⟩))
    · cases e
  · exact Or.inr (Or.inr (Or.inr (Or.inl ⟨_, rfl, rfl, rfl, (Option.some.inj e).symm⟩)))
  · exact Or.inr (Or.inr (Or.inr (Or.inr ⟨rfl, rfl, rfl, (Option.some.inj e).symm⟩)))
  · cases e
set_option maxHeartbeats 4000000 in
theorem zWn_all (hI : zOkI pI mC mL) (hL : zOkL mY fld kI kL gst ldS fldS acp ALL gl sl) (hC : zOkC mY mC mL mR cal ALL) (hALL : ∀ w ∈ ALL, goodWord w = true) (hN : ∀ k, N ≤ k → ∃ t n r, 4 ≤ t ∧ tab k = .inr (t, n, r)) (hlong : ∀ (k ci : Nat) (fk : List Nat) (fi j : Nat), tab k = .inl (ci, fk) → fk[fi]? = some 1 → fk[j]? = some 1 → j = fi) (hinj : zInj ad N) (h99 : ∀ k fk, tab k ≠ .inl (99, fk)) (hnat : 8 + (nativeFrameWords "java/lang/System" "arraycopy" 5 + 11) ≤ 200) : ∀ n : Nat, zWn l tab pI mY mC mL mR fld kI kL gst ldS fldS acp cal cI cZ cQ cG dC dI ad N ALL gl sl n := by
  intro n
  induction n with
  | zero => intro d mid pc loc stk h r h' e; cases e
  | succ n ih =>
    intro d mid pc loc stk h r h' e p e9 R s m args below meth c H locs ls hx hb hml hr hts hown hK hT hlocks hR hl hP hS
    have hD : ∀ h2 : zH, va_D (zA ad N s.heap.size) (zW tab cI cZ cQ cG ad N h2) := fun h2 => zD_of hinj (fun id hid => Or.inl ⟨id, hid, rfl⟩)
    obtain ⟨o1, o2, o3, o4, o5, o6, o7⟩ := hL mid
    unfold zrun at e
    cases hi : pI mid pc with
    | none => rw [hi] at e; cases e
    | some i =>
      obtain ⟨hok, ln, hdec, hln⟩ := hI mid pc i hi
      simp only [hi] at e
      cases hc : zcl tab mL cal mid i stk with
      | some z =>
        obtain ⟨callee, av, rest⟩ := z
        simp only [hc] at e
        cases d with
        | zero => cases e
        | succ d' =>
          simp only at e
          cases hr1 : zrun tab pI mL mR fld kI kL gst ldS fldS acp cal n d' callee 0 (zent 0 av) [] h with
          | none => rw [hr1] at e; cases e
          | some z =>
            obtain ⟨r1, h1⟩ := z
            rw [hr1] at e
            simp only at e
            have hfree : ∀ q, zA ad N H.size q → zA ad N s.heap.size q := zA_mono hS.1
            have fin : ∀ (r2 : Option zV) (h2 : zH) (H1 : Heap) (locs1 : List Loc), (r2 = r1 ∧ h2 = h1) → va_P (dC, dI) vwCl (zW tab cI cZ cQ cG ad N h2) H1 → va_S (zA ad N s.heap.size) s.heap H1 locs1 → W p l e9 R s m args below meth c H1 locs1 0 0 (MQ below (zQ tab cI cZ cQ cG dC dI ad N (zA ad N s.heap.size) (fun r2 h2 => r2 = r ∧ h2 = h')) args s 0 0 (zA ad N s.heap.size)) (F0 m (pc + 3) ls ((r2.map (zv ad)).toList ++ rest.map (zv ad))) := by
              rintro r2 h2 H1 locs1 ⟨rfl, rfl⟩ hP1 hS1
              have k9 := ih (d' + 1) mid (pc + 3) loc (r2.toList ++ rest) h2 r h' e (e := e9) (below := below) hx hb hml hr hts hown hK hT hlocks hR hl hP1 hS1
              have es : (r2.toList ++ rest).map (zv ad) = (r2.map (zv ad)).toList ++ rest.map (zv ad) := by
                rw [List.map_append]
                cases r2 <;> rfl
              rw [es] at k9
              exact k9
            have hpreS : ∀ U : State, U.heap = H → s.WarmedH U.vm → va_Pc (av.map (zv ad)) (zPreM tab gl sl cI cZ cQ cG dC dI ad N H.size h) (av.map (zv ad)).toArray U := fun U hU hWm => ⟨rfl, by rw [hU], by rw [hU]; exact hP, va_K.moved hWm.alike hK, hT.call hS hfree hU hWm⟩
            have hroom : ∀ mx : Nat, mx ≤ 21 → (zrm d').frames + 1 ≤ R.frames ∧ 8 + (mx + 11) + (zrm d').locals ≤ R.locals := fun mx hmx => by
              obtain ⟨a1, a2⟩ := hR
              refine ⟨a1, ?_⟩
              show 8 + (mx + 11) + (40 * d' + 200) ≤ _
              omega
            cases i
            case invokevirtual idx =>
              simp only [zcl] at hc
              cases hcal : cal mid idx with
              | none => rw [hcal] at hc; cases hc
              | some z =>
                obtain ⟨ce, na, kc⟩ := z
                simp only [hcal] at hc
                split at hc
                case isFalse => cases hc
                case isTrue hg =>
                  cases hc
                  simp only [Bool.and_eq_true, decide_eq_true_eq] at hg
                  obtain ⟨⟨⟨⟨g1, g2⟩, g3⟩, g4⟩, g5⟩ := hg
                  obtain ⟨w1, w2, w3, w4, w5, w6, w7, -, w9⟩ := hC mid idx callee na kc hcal
                  obtain ⟨v0, v1, v2, v3, v4⟩ := w9 g1
                  have hM := zMet_of ih hr1 w2 g4 H.size
                  have hdec : decode (mC mid) pc = .ok (.invokevirtual idx, 3) := by
                    rcases hln with q | q
                    · cases q
                    · rw [q] at hdec; exact hdec
                  match hav : (stk.take na).reverse, g5 with
                  | .inr (.inr k) :: as, g5 =>
                    have hstk : stk.map (zv ad) = (as.map (zv ad)).reverse ++ .ref (ad k) :: (stk.drop na).map (zv ad) := by
                      have e1 : stk.take na = (.inr (.inr k) :: as : List zV).reverse := by rw [← hav, List.reverse_reverse]
                      conv => lhs; rw [← List.take_append_drop na stk, e1]
                      rw [List.map_append, List.map_reverse, List.map_cons, List.reverse_cons, List.append_assoc]
                      rfl
                    have hlen : (as.map (zv ad)).length = na - 1 := by
                      have := congrArg List.length hav
                      rw [List.length_reverse, List.length_take, List.length_cons] at this
                      rw [List.length_map]
                      omega
                    rw [hav] at hM hpreS
                    have hrecv : ∃ cell : Cell, H[ad k]? = some cell ∧ cell.vm.isStatics = false ∧ s.vm.findClass (mY callee).cls = some cell.cls := by
                      cases ht : tab k with
                      | inl z =>
                        obtain ⟨ci, fk⟩ := z
                        simp only [zrcv, ht, beq_iff_eq] at g5
                        subst g5
                        have hk : k < N := by
                          rcases Nat.lt_or_ge k N with q | q
                          · exact q
                          · obtain ⟨t, n2, r2, -, e3⟩ := hN k q
                            rw [ht] at e3
                            cases e3
                        rcases v4 with ⟨rfl, -⟩ | ⟨-, q, hq, hq1⟩
                        · exact absurd ht (h99 k fk)
                        · have := va_recv hK hP hq (show (zW tab cI cZ cQ cG ad N h)[k]? = some (ad k, .inr (ci, zfs ad h k fk)) by rw [zW_at hk, zce_obj ht])
                          rw [hq1] at this
                          exact this
                      | inr z =>
                        obtain ⟨t, n2, r2⟩ := z
                        simp only [zrcv, ht, Bool.and_eq_true, beq_iff_eq] at g5
                        obtain ⟨rfl, rfl⟩ := g5
                        rcases v4 with ⟨-, hs⟩ | ⟨q, -⟩
                        · obtain ⟨cell, c1, c2, c3, -⟩ := (hT.2.2.1 k n2 r2 ht).1.kept hS.2.1
                          rw [hs]
                          exact ⟨cell, c1, c2, c3⟩
                        · omega
                    have hrun := va_runV (l := l) (e := e9) (R := R) (below := below) (meth := meth) (locs := locs) (cells := 0) (slots := 0) (nL := mL mid) (As := as.map (zv ad)) (rest := (stk.drop na).map (zv ad)) (g := F0 m pc ls (stk.map (zv ad))) ⟨hx, hb, hml, hown, hts⟩ hM (cwV (na - 1) hts (zgood hALL w1 [.methodLink (mY mid).cls idx (mY callee), .instanceMethod (mY callee), .selects (mY callee).cls (mY callee) (mY callee), .initialized (mY callee).cls] (by
                        intro w hw
                        simp only [List.mem_cons, List.not_mem_nil, or_false] at hw
                        rcases hw with rfl | rfl | rfl | rfl
                        · exact w4
                        · exact v1
                        · exact v2
                        · exact w5)) rfl rfl rfl ⟨rfl, w6, w7, v3⟩ (hroom _ w3)) ⟨zBlindM, hrecv, hpreS⟩ rfl hlen hl.1 hstk (lv_room (by rw [zcat_map]; exact g3)) hdec ⟨Nat.zero_le _, Nat.zero_le _⟩
                    exact z_call hrun hS hfree hfree fin
            case invokestatic idx =>
              simp only [zcl] at hc
              cases hcal : cal mid idx with
              | none => rw [hcal] at hc; cases hc
              | some z =>
                obtain ⟨ce, na, kc⟩ := z
                simp only [hcal] at hc
                split at hc
                case isFalse => cases hc
                case isTrue hg =>
                  cases hc
                  simp only [Bool.and_eq_true, decide_eq_true_eq] at hg
                  obtain ⟨⟨⟨g1, g2⟩, g3⟩, g4⟩ := hg
                  obtain ⟨w1, w2, w3, w4, w5, w6, w7, w8, -⟩ := hC mid idx callee na kc hcal
                  obtain ⟨v1, v2⟩ := w8 g1
                  have hM := zMet_of ih hr1 w2 g4 H.size
                  have hdec : decode (mC mid) pc = .ok (.invokestatic idx, 3) := by
                    rcases hln with q | q
                    · cases q
                    · rw [q] at hdec; exact hdec
                  have hstk : stk.map (zv ad) = (((stk.take na).reverse).map (zv ad)).reverse ++ (stk.drop na).map (zv ad) := by
                    rw [← List.map_reverse, List.reverse_reverse, ← List.map_append, List.take_append_drop]
                  have hlen : (((stk.take na).reverse).map (zv ad)).length = na := by
                    rw [List.length_map, List.length_reverse, List.length_take]
                    omega
                  have hrun := va_runS (l := l) (e := e9) (R := R) (below := below) (meth := meth) (locs := locs) (cells := 0) (slots := 0) (nL := mL mid) (As := ((stk.take na).reverse).map (zv ad)) (rest := (stk.drop na).map (zv ad)) (g := F0 m pc ls (stk.map (zv ad))) ⟨hx, hb, hml, hown, hts⟩ hM (va_cwS na hts (zgood hALL w1 [.methodLink (mY mid).cls idx (mY callee), .static (mY callee), .initialized (mY callee).cls] (by
                      intro w hw
                      simp only [List.mem_cons, List.not_mem_nil, or_false] at hw
                      rcases hw with rfl | rfl | rfl
                      · exact w4
                      · exact v1
                      · exact w5)) rfl rfl rfl ⟨w6, w7, v2⟩ (hroom _ w3)) ⟨zBlindM, hpreS⟩ rfl hlen hl.1 hstk (lv_room (by rw [zcat_map]; exact g3)) hdec ⟨Nat.zero_le _, Nat.zero_le _⟩
                  exact z_call hrun hS hfree hfree fin
            all_goals cases hc
      | none =>
        simp only [hc] at e
        cases hz : zend (mR mid) i stk with
        | some r1 =>
          rw [hz] at e
          cases e
          have hdec1 : zlen i = 1 → zSwi i = false → decode (mC mid) pc = .ok (i, 1) := fun q1 q2 => by
            rcases hln with q | q
            · rw [q2] at q; cases q
            · rw [q, q1] at hdec; exact hdec
          rcases zend_el hz with ⟨x, rfl, rfl, hret, rfl⟩ | ⟨x, rfl, rfl, hret, hb01, rfl⟩ | ⟨x, rfl, rfl, hret, hb0, rfl⟩ | ⟨x, rfl, rfl, hret, rfl⟩ | ⟨rfl, rfl, hret, rfl⟩
          · exact W.iret (v := x) hx hb (hr.trans hret) (fun t ht _ => ⟨⟨_, _, rfl, ⟨rfl, rfl⟩, by rw [ht]; exact hP⟩, hS.F ht⟩) hS.2.2 (hdec1 rfl rfl) hlocks
          · exact W.zret (v := x) (ty := .boolean) hx hb (hr.trans hret) (by rcases hb01 with rfl | rfl <;> rfl) (fun t ht _ => ⟨⟨_, _, rfl, ⟨rfl, rfl⟩, by rw [ht]; exact hP⟩, hS.F ht⟩) hS.2.2 (hdec1 rfl rfl) hlocks
          · exact W.zret (v := x) (ty := .byte) hx hb (hr.trans hret) (by rw [hb0]; rfl) (fun t ht _ => ⟨⟨_, _, rfl, ⟨rfl, rfl⟩, by rw [ht]; exact hP⟩, hS.F ht⟩) hS.2.2 (hdec1 rfl rfl) hlocks
          · exact W.lret (v := x) hx hb (hr.trans hret) (fun t ht _ => ⟨⟨_, _, rfl, ⟨rfl, rfl⟩, by rw [ht]; exact hP⟩, hS.F ht⟩) hS.2.2 (hdec1 rfl rfl) hlocks
          · exact W.vret hx hb (hr.trans hret) (fun t ht _ => ⟨⟨_, _, rfl, ⟨rfl, rfl⟩, by rw [ht]; exact hP⟩, hS.F ht⟩) hS.2.2 (hdec1 rfl rfl) hlocks
        | none =>
          rw [hz] at e
          simp only at e
          cases hs : zst tab fld kI kL gst ldS fldS acp mid i pc loc stk h with
          | none => rw [hs] at e; cases e
          | some q =>
            rw [hs] at e
            simp only at e
            have kk : ∀ (pc' : Nat) (loc' : zL) (stk' : List zV) (h2 : zH) (H' : Heap) (locs' : List Loc) (ls' : Array Slot), lv_has ls' (mL mid) (zc ad loc') → va_P (dC, dI) vwCl (zW tab cI cZ cQ cG ad N h2) H' → va_S (zA ad N s.heap.size) s.heap H' locs' → (pc' = q.1 ∧ loc' = q.2.1 ∧ stk' = q.2.2.1 ∧ h2 = q.2.2.2) → W p l e9 R s m args below meth c H' locs' 0 0 (MQ below (zQ tab cI cZ cQ cG dC dI ad N (zA ad N s.heap.size) (fun r2 h2 => r2 = r ∧ h2 = h')) args s 0 0 (zA ad N s.heap.size)) (F0 m pc' ls' (stk'.map (zv ad))) := by
              rintro pc' loc' stk' h2 H' locs' ls' hl' hP' hS' ⟨rfl, rfl, rfl, rfl⟩
              exact ih d mid _ _ _ _ r h' e hx hb hml hr hts hown hK hT hlocks hR hl' hP' hS'
            have hlen : zSwi i = false → decode (mC mid) pc = .ok (i, zlen i) := fun hsw => by
              rcases hln with q9 | q9
              · rw [hsw] at q9; cases q9
              · rw [q9] at hdec; exact hdec
            rcases zst_or hs with f | f | f | f | f
            · exact zst1_sound hx hb (hlen (zf1_ns f)) hok (zf1_h f) hl (zf1_st f (fun a b c d => a = q.1 ∧ b = q.2.1 ∧ c = q.2.2.1 ∧ d = q.2.2.2) ⟨rfl, rfl, rfl, rfl⟩) (fun pc' loc' stk' ls' hl' hk => kk pc' loc' stk' h H locs ls' hl' hP hS hk)
            · exact zst2_sound hx hb hts hown hK o1 hN hlong (hlen (zf2_ns f)) hl hP (hD h) hS (zf2_st f (fun a b c d => a = q.1 ∧ b = q.2.1 ∧ c = q.2.2.1 ∧ d = q.2.2.2) ⟨rfl, rfl, rfl, rfl⟩) (fun pc' loc' stk' h2 H' locs' ls' hl' hP' _ hS' hk => kk pc' loc' stk' h2 H' locs' ls' hl' hP' hS' hk)
            · exact zst4_sound hx hb hdec (by have k9 := zf4_len f hln; clear kk; cases i <;> exact k9) hl (zf4_st f (fun a b c d => a = q.1 ∧ b = q.2.1 ∧ c = q.2.2.1 ∧ d = q.2.2.2) ⟨rfl, rfl, rfl, rfl⟩) (fun pc' loc' stk' ls' hl' hk => kk pc' loc' stk' h H locs ls' hl' hP hS hk)
            · exact zst5_sound hx hb hts hown o2 o3 (hlen (zf5_ns f)) hl (zf5_st f (fun a b c d => a = q.1 ∧ b = q.2.1 ∧ c = q.2.2.1 ∧ d = q.2.2.2) ⟨rfl, rfl, rfl, rfl⟩) (fun pc' loc' stk' ls' hl' hk => kk pc' loc' stk' h H locs ls' hl' hP hS hk)
            · exact zf6_sound hx hb hml hts hown hK hN hT o4 o5 o6 o7 ⟨by omega, by omega⟩ (hlen (zf6_ns f)) hl hP (hD h) hS f (fun H' locs' ls' hl' hP' _ hS' => kk _ _ _ _ H' locs' ls' hl' hP' hS' ⟨rfl, rfl, rfl, rfl⟩)
end ZSND2
