/-! the law from its entry -/
theorem zArr {ty : FieldType} {args : Array Value} {s : State} (h : (Cond.arrayClass ty).before args s = true) : ∃ cA : ClassId, ArrOfT s cA ty ∧ s.vm.findClass ("[" ++ ty.toString) = some cA := by
  obtain ⟨cB, kB, comp, h1, h2, h3⟩ := Cond.arrayClass_spec h
  exact ⟨cB, fun N z => ⟨(fun k h => by cases h), kB, h2, comp, h3⟩, h1⟩
theorem hAOA {s : State} {t : FieldType} (h : va_AOA t s) : ∃ (comp c : ClassId) (k : Class), s.vm.findClass (FieldType.array t).toString = some comp ∧ s.vm.classes[c]? = some k ∧ k.kind = .array comp (.array t) ∧ s.vm.findClass ("[" ++ (FieldType.array t).toString) = some c := by
  have h : (Cond.arrayOver (.array t)).holds #[] s none s [] = true := h
  simp only [Cond.holds, Cond.value, beq_iff_eq] at h
  cases hc : s.vm.findClass (FieldType.array t).toString with
  | none => simp [hc] at h
  | some comp =>
    simp only [hc, Option.bind_some, Option.bind_eq_some_iff, Option.map_eq_some_iff] at h
    obtain ⟨c, hi, k, hk, hb⟩ := h
    obtain ⟨hlt, hp, -⟩ := Array.findIdx?_eq_some_iff_getElem.mp hi
    have hkk : s.vm.classes[c] = k := (Array.getElem?_eq_some_iff.mp hk).2
    rw [hkk] at hp
    cases hkind : k.kind with
    | array component ty =>
      rw [hkind] at hb hp
      simp at hb hp
      exact ⟨comp, c, k, rfl, hk, by rw [hkind, hp, hb.1], hb.2⟩
    | _ => rw [hkind] at hb; simp at hb
theorem hstat4 {k n : Nat} {q : List Nat} (h : yTab k = .inr (4, n, q)) : k = 441 ∨ k = 442 ∨ k = 443 ∨ k = 444 ∨ k = 445 ∨ k = 446 := by
  have hk : k < 453 := by
    rcases Nat.lt_or_ge k 453 with z | z
    · exact z
    · rw [(yReg_d z).2] at h
      cases h
  have := yAll (f := fun k => match yTab k with
    | .inr (4, _, _) => decide (k = 441) || decide (k = 442) || decide (k = 443) || decide (k = 444) || decide (k = 445) || decide (k = 446)
    | _ => true) (n := 453) (by decide +kernel) hk
  try simp only at this
  rw [h] at this
  simp only [Bool.or_eq_true, decide_eq_true_eq] at this
  omega
theorem hstat6 {k n : Nat} {q : List Nat} (h : yTab k = .inr (6, n, q)) : k = 447 ∨ k = 449 ∨ k = 451 := by
  have hk : k < 453 := by
    rcases Nat.lt_or_ge k 453 with z | z
    · exact z
    · rw [(yReg_d z).2] at h
      cases h
  have := yAll (f := fun k => match yTab k with
    | .inr (6, _, _) => decide (k = 447) || decide (k = 449) || decide (k = 451)
    | _ => true) (n := 453) (by decide +kernel) hk
  try simp only at this
  rw [h] at this
  simp only [Bool.or_eq_true, decide_eq_true_eq] at this
  omega
theorem hstat5 {k n : Nat} {q : List Nat} (h : yTab k = .inr (5, n, q)) : k = 448 ∨ k = 450 ∨ k = 452 := by
  have hk : k < 453 := by
    rcases Nat.lt_or_ge k 453 with z | z
    · exact z
    · rw [(yReg_d z).2] at h
      cases h
  have := yAll (f := fun k => match yTab k with
    | .inr (5, _, _) => decide (k = 448) || decide (k = 450) || decide (k = 452)
    | _ => true) (n := 453) (by decide +kernel) hk
  try simp only at this
  rw [h] at this
  simp only [Bool.or_eq_true, decide_eq_true_eq] at this
  omega
theorem hT441 : yTab 441 = .inr (4, 3, [4, 1, 0]) := yE1_eq (by decide +kernel)
theorem hT442 : yTab 442 = .inr (4, 3, [10, 20, 99]) := yE1_eq (by decide +kernel)
theorem hT443 : yTab 443 = .inr (4, 3, [8, 7, 20]) := yE1_eq (by decide +kernel)
theorem hT444 : yTab 444 = .inr (4, 4, [0, 0, 0, 0]) := yE1_eq (by decide +kernel)
theorem hT445 : yTab 445 = .inr (4, 4, [10, 9, 9, 9]) := yE1_eq (by decide +kernel)
theorem hT446 : yTab 446 = .inr (4, 4, [3, 3, 5, 0]) := yE1_eq (by decide +kernel)
theorem hT448 : yTab 448 = .inr (5, 447, []) := yE1_eq (by decide +kernel)
theorem hT450 : yTab 450 = .inr (5, 449, []) := yE1_eq (by decide +kernel)
theorem hT452 : yTab 452 = .inr (5, 451, []) := yE1_eq (by decide +kernel)
theorem hT447 : yTab 447 = .inr (6, 3, [104, 110, 99]) := yE1_eq (by decide +kernel)
theorem hT449 : yTab 449 = .inr (6, 4, [110, 100, 101, 98]) := yE1_eq (by decide +kernel)
theorem hT451 : yTab 451 = .inr (6, 6, [100, 105, 101, 104, 119, 110]) := yE1_eq (by decide +kernel)
/-- the static cells' addresses -/
noncomputable def hst9 (sRULE_LOW : Nat) (sRULE_HIGH : Nat) (sRULE_FIRST : Nat) (sMAN_LOW : Nat) (sMAN_HIGH : Nat) (sMAN_FIRST : Nat) (thnc : Nat) (tndeb : Nat) (tdiehwn : Nat) (vhnc : Nat) (vndeb : Nat) (vdiehwn : Nat) : Nat → Nat := fun i => if i = 441 then sRULE_LOW else if i = 442 then sRULE_HIGH else if i = 443 then sRULE_FIRST else if i = 444 then sMAN_LOW else if i = 445 then sMAN_HIGH else if i = 446 then sMAN_FIRST else if i = 448 then thnc else if i = 450 then tndeb else if i = 452 then tdiehwn else if i = 447 then vhnc else if i = 449 then vndeb else if i = 451 then vdiehwn else 0
theorem hst9_441 {sRULE_LOW sRULE_HIGH sRULE_FIRST sMAN_LOW sMAN_HIGH sMAN_FIRST thnc tndeb tdiehwn vhnc vndeb vdiehwn : Nat} : hst9 sRULE_LOW sRULE_HIGH sRULE_FIRST sMAN_LOW sMAN_HIGH sMAN_FIRST thnc tndeb tdiehwn vhnc vndeb vdiehwn 441 = sRULE_LOW := rfl
theorem hst9_442 {sRULE_LOW sRULE_HIGH sRULE_FIRST sMAN_LOW sMAN_HIGH sMAN_FIRST thnc tndeb tdiehwn vhnc vndeb vdiehwn : Nat} : hst9 sRULE_LOW sRULE_HIGH sRULE_FIRST sMAN_LOW sMAN_HIGH sMAN_FIRST thnc tndeb tdiehwn vhnc vndeb vdiehwn 442 = sRULE_HIGH := rfl
theorem hst9_443 {sRULE_LOW sRULE_HIGH sRULE_FIRST sMAN_LOW sMAN_HIGH sMAN_FIRST thnc tndeb tdiehwn vhnc vndeb vdiehwn : Nat} : hst9 sRULE_LOW sRULE_HIGH sRULE_FIRST sMAN_LOW sMAN_HIGH sMAN_FIRST thnc tndeb tdiehwn vhnc vndeb vdiehwn 443 = sRULE_FIRST := rfl
theorem hst9_444 {sRULE_LOW sRULE_HIGH sRULE_FIRST sMAN_LOW sMAN_HIGH sMAN_FIRST thnc tndeb tdiehwn vhnc vndeb vdiehwn : Nat} : hst9 sRULE_LOW sRULE_HIGH sRULE_FIRST sMAN_LOW sMAN_HIGH sMAN_FIRST thnc tndeb tdiehwn vhnc vndeb vdiehwn 444 = sMAN_LOW := rfl
theorem hst9_445 {sRULE_LOW sRULE_HIGH sRULE_FIRST sMAN_LOW sMAN_HIGH sMAN_FIRST thnc tndeb tdiehwn vhnc vndeb vdiehwn : Nat} : hst9 sRULE_LOW sRULE_HIGH sRULE_FIRST sMAN_LOW sMAN_HIGH sMAN_FIRST thnc tndeb tdiehwn vhnc vndeb vdiehwn 445 = sMAN_HIGH := rfl
theorem hst9_446 {sRULE_LOW sRULE_HIGH sRULE_FIRST sMAN_LOW sMAN_HIGH sMAN_FIRST thnc tndeb tdiehwn vhnc vndeb vdiehwn : Nat} : hst9 sRULE_LOW sRULE_HIGH sRULE_FIRST sMAN_LOW sMAN_HIGH sMAN_FIRST thnc tndeb tdiehwn vhnc vndeb vdiehwn 446 = sMAN_FIRST := rfl
theorem hst9_448 {sRULE_LOW sRULE_HIGH sRULE_FIRST sMAN_LOW sMAN_HIGH sMAN_FIRST thnc tndeb tdiehwn vhnc vndeb vdiehwn : Nat} : hst9 sRULE_LOW sRULE_HIGH sRULE_FIRST sMAN_LOW sMAN_HIGH sMAN_FIRST thnc tndeb tdiehwn vhnc vndeb vdiehwn 448 = thnc := rfl
theorem hst9_450 {sRULE_LOW sRULE_HIGH sRULE_FIRST sMAN_LOW sMAN_HIGH sMAN_FIRST thnc tndeb tdiehwn vhnc vndeb vdiehwn : Nat} : hst9 sRULE_LOW sRULE_HIGH sRULE_FIRST sMAN_LOW sMAN_HIGH sMAN_FIRST thnc tndeb tdiehwn vhnc vndeb vdiehwn 450 = tndeb := rfl
theorem hst9_452 {sRULE_LOW sRULE_HIGH sRULE_FIRST sMAN_LOW sMAN_HIGH sMAN_FIRST thnc tndeb tdiehwn vhnc vndeb vdiehwn : Nat} : hst9 sRULE_LOW sRULE_HIGH sRULE_FIRST sMAN_LOW sMAN_HIGH sMAN_FIRST thnc tndeb tdiehwn vhnc vndeb vdiehwn 452 = tdiehwn := rfl
theorem hst9_447 {sRULE_LOW sRULE_HIGH sRULE_FIRST sMAN_LOW sMAN_HIGH sMAN_FIRST thnc tndeb tdiehwn vhnc vndeb vdiehwn : Nat} : hst9 sRULE_LOW sRULE_HIGH sRULE_FIRST sMAN_LOW sMAN_HIGH sMAN_FIRST thnc tndeb tdiehwn vhnc vndeb vdiehwn 447 = vhnc := rfl
theorem hst9_449 {sRULE_LOW sRULE_HIGH sRULE_FIRST sMAN_LOW sMAN_HIGH sMAN_FIRST thnc tndeb tdiehwn vhnc vndeb vdiehwn : Nat} : hst9 sRULE_LOW sRULE_HIGH sRULE_FIRST sMAN_LOW sMAN_HIGH sMAN_FIRST thnc tndeb tdiehwn vhnc vndeb vdiehwn 449 = vndeb := rfl
theorem hst9_451 {sRULE_LOW sRULE_HIGH sRULE_FIRST sMAN_LOW sMAN_HIGH sMAN_FIRST thnc tndeb tdiehwn vhnc vndeb vdiehwn : Nat} : hst9 sRULE_LOW sRULE_HIGH sRULE_FIRST sMAN_LOW sMAN_HIGH sMAN_FIRST thnc tndeb tdiehwn vhnc vndeb vdiehwn 451 = vdiehwn := rfl
set_option maxHeartbeats 8000000 in
/-- the static cells, out of what the Statement gives -/
theorem hstatics {s : State} {b : Nat} (hts0 : ∀ w ∈ lw_tbl, w.before #[Value.ref b] s = true) (hgv : (Jvm.Cond.and given_1 narrow_1).before #[Value.ref b] s = true) : ∃ st : Nat → Nat, ∀ adB : Nat → Nat, zTT yTab yGl ySl (kadr adB st) (fun q => s.heap.size ≤ q) s s.heap := by
  have hs9 := flat_of_before _ hgv
  have hnA : ∀ a : Nat, a < s.heap.size → ¬ (s.heap.size ≤ a) := fun a h => Nat.not_le.mpr h
  obtain ⟨sRULE_LOW, eRULE_LOW, TRULE_LOW⟩ := va_Tof (tm := (Term.static RX2 "RULE_LOW" "[I")) (ty := .int) (N := 3) (f := fun j => .int (Int32.ofNat (([4, 1, 0] : List Nat).getD j 0))) (A := fun q => s.heap.size ≤ q) (by decide) (hs9 (.arrayOf (Term.static RX2 "RULE_LOW" "[I") .int) (by decide +kernel)) (va_eqt (hs9 (.eq (.length (Term.static RX2 "RULE_LOW" "[I")) (.int 3)) (by decide +kernel)))
    (fun j hj => by
      match j, hj with
      | 0, _ => exact va_eqt (hs9 (.eq (.elem (Term.static RX2 "RULE_LOW" "[I") (.int 0)) (.int 4)) (by decide +kernel))
      | 1, _ => exact va_eqt (hs9 (.eq (.elem (Term.static RX2 "RULE_LOW" "[I") (.int 1)) (.int 1)) (by decide +kernel))
      | 2, _ => exact va_eqt (hs9 (.eq (.elem (Term.static RX2 "RULE_LOW" "[I") (.int 2)) (.int 0)) (by decide +kernel))
      | j + 3, hj => omega) hnA
  obtain ⟨sRULE_HIGH, eRULE_HIGH, TRULE_HIGH⟩ := va_Tof (tm := (Term.static RX2 "RULE_HIGH" "[I")) (ty := .int) (N := 3) (f := fun j => .int (Int32.ofNat (([10, 20, 99] : List Nat).getD j 0))) (A := fun q => s.heap.size ≤ q) (by decide) (hs9 (.arrayOf (Term.static RX2 "RULE_HIGH" "[I") .int) (by decide +kernel)) (va_eqt (hs9 (.eq (.length (Term.static RX2 "RULE_HIGH" "[I")) (.int 3)) (by decide +kernel)))
    (fun j hj => by
      match j, hj with
      | 0, _ => exact va_eqt (hs9 (.eq (.elem (Term.static RX2 "RULE_HIGH" "[I") (.int 0)) (.int 10)) (by decide +kernel))
      | 1, _ => exact va_eqt (hs9 (.eq (.elem (Term.static RX2 "RULE_HIGH" "[I") (.int 1)) (.int 20)) (by decide +kernel))
      | 2, _ => exact va_eqt (hs9 (.eq (.elem (Term.static RX2 "RULE_HIGH" "[I") (.int 2)) (.int 99)) (by decide +kernel))
      | j + 3, hj => omega) hnA
  obtain ⟨sRULE_FIRST, eRULE_FIRST, TRULE_FIRST⟩ := va_Tof (tm := (Term.static RX2 "RULE_FIRST" "[I")) (ty := .int) (N := 3) (f := fun j => .int (Int32.ofNat (([8, 7, 20] : List Nat).getD j 0))) (A := fun q => s.heap.size ≤ q) (by decide) (hs9 (.arrayOf (Term.static RX2 "RULE_FIRST" "[I") .int) (by decide +kernel)) (va_eqt (hs9 (.eq (.length (Term.static RX2 "RULE_FIRST" "[I")) (.int 3)) (by decide +kernel)))
    (fun j hj => by
      match j, hj with
      | 0, _ => exact va_eqt (hs9 (.eq (.elem (Term.static RX2 "RULE_FIRST" "[I") (.int 0)) (.int 8)) (by decide +kernel))
      | 1, _ => exact va_eqt (hs9 (.eq (.elem (Term.static RX2 "RULE_FIRST" "[I") (.int 1)) (.int 7)) (by decide +kernel))
      | 2, _ => exact va_eqt (hs9 (.eq (.elem (Term.static RX2 "RULE_FIRST" "[I") (.int 2)) (.int 20)) (by decide +kernel))
      | j + 3, hj => omega) hnA
  obtain ⟨sMAN_LOW, eMAN_LOW, TMAN_LOW⟩ := va_Tof (tm := (Term.static RX2 "MAN_LOW" "[I")) (ty := .int) (N := 4) (f := fun j => .int (Int32.ofNat (([0, 0, 0, 0] : List Nat).getD j 0))) (A := fun q => s.heap.size ≤ q) (by decide) (hs9 (.arrayOf (Term.static RX2 "MAN_LOW" "[I") .int) (by decide +kernel)) (va_eqt (hs9 (.eq (.length (Term.static RX2 "MAN_LOW" "[I")) (.int 4)) (by decide +kernel)))
    (fun j hj => by
      match j, hj with
      | 0, _ => exact va_eqt (hs9 (.eq (.elem (Term.static RX2 "MAN_LOW" "[I") (.int 0)) (.int 0)) (by decide +kernel))
      | 1, _ => exact va_eqt (hs9 (.eq (.elem (Term.static RX2 "MAN_LOW" "[I") (.int 1)) (.int 0)) (by decide +kernel))
      | 2, _ => exact va_eqt (hs9 (.eq (.elem (Term.static RX2 "MAN_LOW" "[I") (.int 2)) (.int 0)) (by decide +kernel))
      | 3, _ => exact va_eqt (hs9 (.eq (.elem (Term.static RX2 "MAN_LOW" "[I") (.int 3)) (.int 0)) (by decide +kernel))
      | j + 4, hj => omega) hnA
  obtain ⟨sMAN_HIGH, eMAN_HIGH, TMAN_HIGH⟩ := va_Tof (tm := (Term.static RX2 "MAN_HIGH" "[I")) (ty := .int) (N := 4) (f := fun j => .int (Int32.ofNat (([10, 9, 9, 9] : List Nat).getD j 0))) (A := fun q => s.heap.size ≤ q) (by decide) (hs9 (.arrayOf (Term.static RX2 "MAN_HIGH" "[I") .int) (by decide +kernel)) (va_eqt (hs9 (.eq (.length (Term.static RX2 "MAN_HIGH" "[I")) (.int 4)) (by decide +kernel)))
    (fun j hj => by
      match j, hj with
      | 0, _ => exact va_eqt (hs9 (.eq (.elem (Term.static RX2 "MAN_HIGH" "[I") (.int 0)) (.int 10)) (by decide +kernel))
      | 1, _ => exact va_eqt (hs9 (.eq (.elem (Term.static RX2 "MAN_HIGH" "[I") (.int 1)) (.int 9)) (by decide +kernel))
      | 2, _ => exact va_eqt (hs9 (.eq (.elem (Term.static RX2 "MAN_HIGH" "[I") (.int 2)) (.int 9)) (by decide +kernel))
      | 3, _ => exact va_eqt (hs9 (.eq (.elem (Term.static RX2 "MAN_HIGH" "[I") (.int 3)) (.int 9)) (by decide +kernel))
      | j + 4, hj => omega) hnA
  obtain ⟨sMAN_FIRST, eMAN_FIRST, TMAN_FIRST⟩ := va_Tof (tm := (Term.static RX2 "MAN_FIRST" "[I")) (ty := .int) (N := 4) (f := fun j => .int (Int32.ofNat (([3, 3, 5, 0] : List Nat).getD j 0))) (A := fun q => s.heap.size ≤ q) (by decide) (hs9 (.arrayOf (Term.static RX2 "MAN_FIRST" "[I") .int) (by decide +kernel)) (va_eqt (hs9 (.eq (.length (Term.static RX2 "MAN_FIRST" "[I")) (.int 4)) (by decide +kernel)))
    (fun j hj => by
      match j, hj with
      | 0, _ => exact va_eqt (hs9 (.eq (.elem (Term.static RX2 "MAN_FIRST" "[I") (.int 0)) (.int 3)) (by decide +kernel))
      | 1, _ => exact va_eqt (hs9 (.eq (.elem (Term.static RX2 "MAN_FIRST" "[I") (.int 1)) (.int 3)) (by decide +kernel))
      | 2, _ => exact va_eqt (hs9 (.eq (.elem (Term.static RX2 "MAN_FIRST" "[I") (.int 2)) (.int 5)) (by decide +kernel))
      | 3, _ => exact va_eqt (hs9 (.eq (.elem (Term.static RX2 "MAN_FIRST" "[I") (.int 3)) (.int 0)) (by decide +kernel))
      | j + 4, hj => omega) hnA
  obtain ⟨thnc, _, _, _, ethnc, -⟩ := Cond.exactly_spec (hs9 (.exactly (Term.string RX2 65) "java/lang/String") (by decide +kernel))
  have othnc := va_Oof (A := fun q => s.heap.size ≤ q) (hs9 (.exactly (Term.string RX2 65) "java/lang/String") (by decide +kernel)) ethnc hnA
  have cthnc := vk_OFof (A := fun q => s.heap.size ≤ q) ethnc (va_eqt (hs9 (.eq (.field (Term.string RX2 65) "java/lang/String" "coder" "B") (.int 0)) (by decide +kernel))) hnA
  obtain ⟨vhnc, evhnc, Tvhnc⟩ := va_Tof (tm := (Term.field (Term.string RX2 65) "java/lang/String" "value" "[B")) (ty := .byte) (N := 3) (f := fun j => .int (Int32.ofNat (([104, 110, 99] : List Nat).getD j 0))) (A := fun q => s.heap.size ≤ q) (by decide) (hs9 (.arrayOf (Term.field (Term.string RX2 65) "java/lang/String" "value" "[B") .byte) (by decide +kernel)) (va_eqt (hs9 (.eq (.length (Term.field (Term.string RX2 65) "java/lang/String" "value" "[B")) (.int 3)) (by decide +kernel)))
    (fun j hj => by
      match j, hj with
      | 0, _ => exact va_eqt (hs9 (.eq (.elem (Term.field (Term.string RX2 65) "java/lang/String" "value" "[B") (.int 0)) (.int 104)) (by decide +kernel))
      | 1, _ => exact va_eqt (hs9 (.eq (.elem (Term.field (Term.string RX2 65) "java/lang/String" "value" "[B") (.int 1)) (.int 110)) (by decide +kernel))
      | 2, _ => exact va_eqt (hs9 (.eq (.elem (Term.field (Term.string RX2 65) "java/lang/String" "value" "[B") (.int 2)) (.int 99)) (by decide +kernel))
      | j + 3, hj => omega) hnA
  have fthnc := vk_OFof (A := fun q => s.heap.size ≤ q) ethnc evhnc hnA
  have rthnc := vk_R.of (hts0 (.stringRef RX2 65 "hnc") (by decide +kernel)) ethnc
  obtain ⟨tndeb, _, _, _, etndeb, -⟩ := Cond.exactly_spec (hs9 (.exactly (Term.string RX2 80) "java/lang/String") (by decide +kernel))
  have otndeb := va_Oof (A := fun q => s.heap.size ≤ q) (hs9 (.exactly (Term.string RX2 80) "java/lang/String") (by decide +kernel)) etndeb hnA
  have ctndeb := vk_OFof (A := fun q => s.heap.size ≤ q) etndeb (va_eqt (hs9 (.eq (.field (Term.string RX2 80) "java/lang/String" "coder" "B") (.int 0)) (by decide +kernel))) hnA
  obtain ⟨vndeb, evndeb, Tvndeb⟩ := va_Tof (tm := (Term.field (Term.string RX2 80) "java/lang/String" "value" "[B")) (ty := .byte) (N := 4) (f := fun j => .int (Int32.ofNat (([110, 100, 101, 98] : List Nat).getD j 0))) (A := fun q => s.heap.size ≤ q) (by decide) (hs9 (.arrayOf (Term.field (Term.string RX2 80) "java/lang/String" "value" "[B") .byte) (by decide +kernel)) (va_eqt (hs9 (.eq (.length (Term.field (Term.string RX2 80) "java/lang/String" "value" "[B")) (.int 4)) (by decide +kernel)))
    (fun j hj => by
      match j, hj with
      | 0, _ => exact va_eqt (hs9 (.eq (.elem (Term.field (Term.string RX2 80) "java/lang/String" "value" "[B") (.int 0)) (.int 110)) (by decide +kernel))
      | 1, _ => exact va_eqt (hs9 (.eq (.elem (Term.field (Term.string RX2 80) "java/lang/String" "value" "[B") (.int 1)) (.int 100)) (by decide +kernel))
      | 2, _ => exact va_eqt (hs9 (.eq (.elem (Term.field (Term.string RX2 80) "java/lang/String" "value" "[B") (.int 2)) (.int 101)) (by decide +kernel))
      | 3, _ => exact va_eqt (hs9 (.eq (.elem (Term.field (Term.string RX2 80) "java/lang/String" "value" "[B") (.int 3)) (.int 98)) (by decide +kernel))
      | j + 4, hj => omega) hnA
  have ftndeb := vk_OFof (A := fun q => s.heap.size ≤ q) etndeb evndeb hnA
  have rtndeb := vk_R.of (hts0 (.stringRef RX2 80 "ndeb") (by decide +kernel)) etndeb
  obtain ⟨tdiehwn, _, _, _, etdiehwn, -⟩ := Cond.exactly_spec (hs9 (.exactly (Term.string RX4 70) "java/lang/String") (by decide +kernel))
  have otdiehwn := va_Oof (A := fun q => s.heap.size ≤ q) (hs9 (.exactly (Term.string RX4 70) "java/lang/String") (by decide +kernel)) etdiehwn hnA
  have ctdiehwn := vk_OFof (A := fun q => s.heap.size ≤ q) etdiehwn (va_eqt (hs9 (.eq (.field (Term.string RX4 70) "java/lang/String" "coder" "B") (.int 0)) (by decide +kernel))) hnA
  obtain ⟨vdiehwn, evdiehwn, Tvdiehwn⟩ := va_Tof (tm := (Term.field (Term.string RX4 70) "java/lang/String" "value" "[B")) (ty := .byte) (N := 6) (f := fun j => .int (Int32.ofNat (([100, 105, 101, 104, 119, 110] : List Nat).getD j 0))) (A := fun q => s.heap.size ≤ q) (by decide) (hs9 (.arrayOf (Term.field (Term.string RX4 70) "java/lang/String" "value" "[B") .byte) (by decide +kernel)) (va_eqt (hs9 (.eq (.length (Term.field (Term.string RX4 70) "java/lang/String" "value" "[B")) (.int 6)) (by decide +kernel)))
    (fun j hj => by
      match j, hj with
      | 0, _ => exact va_eqt (hs9 (.eq (.elem (Term.field (Term.string RX4 70) "java/lang/String" "value" "[B") (.int 0)) (.int 100)) (by decide +kernel))
      | 1, _ => exact va_eqt (hs9 (.eq (.elem (Term.field (Term.string RX4 70) "java/lang/String" "value" "[B") (.int 1)) (.int 105)) (by decide +kernel))
      | 2, _ => exact va_eqt (hs9 (.eq (.elem (Term.field (Term.string RX4 70) "java/lang/String" "value" "[B") (.int 2)) (.int 101)) (by decide +kernel))
      | 3, _ => exact va_eqt (hs9 (.eq (.elem (Term.field (Term.string RX4 70) "java/lang/String" "value" "[B") (.int 3)) (.int 104)) (by decide +kernel))
      | 4, _ => exact va_eqt (hs9 (.eq (.elem (Term.field (Term.string RX4 70) "java/lang/String" "value" "[B") (.int 4)) (.int 119)) (by decide +kernel))
      | 5, _ => exact va_eqt (hs9 (.eq (.elem (Term.field (Term.string RX4 70) "java/lang/String" "value" "[B") (.int 5)) (.int 110)) (by decide +kernel))
      | j + 6, hj => omega) hnA
  have ftdiehwn := vk_OFof (A := fun q => s.heap.size ≤ q) etdiehwn evdiehwn hnA
  have rtdiehwn := vk_R.of (hts0 (.stringRef RX4 70 "diehwn") (by decide +kernel)) etdiehwn
  refine ⟨hst9 sRULE_LOW sRULE_HIGH sRULE_FIRST sMAN_LOW sMAN_HIGH sMAN_FIRST thnc tndeb tdiehwn vhnc vndeb vdiehwn, fun adB => ⟨fun k n q h => ?_, fun k n q h => ?_, fun k n q h => ?_, fun z hz => ?_, fun z hz => ?_⟩⟩
  · rcases hstat4 h with rfl | rfl | rfl | rfl | rfl | rfl
    · rw [hT441] at h
      cases h
      rw [(show kadr adB (hst9 sRULE_LOW sRULE_HIGH sRULE_FIRST sMAN_LOW sMAN_HIGH sMAN_FIRST thnc tndeb tdiehwn vhnc vndeb vdiehwn) 441 = sRULE_LOW from kadr_ge (by decide))]
      exact TRULE_LOW
    · rw [hT442] at h
      cases h
      rw [(show kadr adB (hst9 sRULE_LOW sRULE_HIGH sRULE_FIRST sMAN_LOW sMAN_HIGH sMAN_FIRST thnc tndeb tdiehwn vhnc vndeb vdiehwn) 442 = sRULE_HIGH from kadr_ge (by decide))]
      exact TRULE_HIGH
    · rw [hT443] at h
      cases h
      rw [(show kadr adB (hst9 sRULE_LOW sRULE_HIGH sRULE_FIRST sMAN_LOW sMAN_HIGH sMAN_FIRST thnc tndeb tdiehwn vhnc vndeb vdiehwn) 443 = sRULE_FIRST from kadr_ge (by decide))]
      exact TRULE_FIRST
    · rw [hT444] at h
      cases h
      rw [(show kadr adB (hst9 sRULE_LOW sRULE_HIGH sRULE_FIRST sMAN_LOW sMAN_HIGH sMAN_FIRST thnc tndeb tdiehwn vhnc vndeb vdiehwn) 444 = sMAN_LOW from kadr_ge (by decide))]
      exact TMAN_LOW
    · rw [hT445] at h
      cases h
      rw [(show kadr adB (hst9 sRULE_LOW sRULE_HIGH sRULE_FIRST sMAN_LOW sMAN_HIGH sMAN_FIRST thnc tndeb tdiehwn vhnc vndeb vdiehwn) 445 = sMAN_HIGH from kadr_ge (by decide))]
      exact TMAN_HIGH
    · rw [hT446] at h
      cases h
      rw [(show kadr adB (hst9 sRULE_LOW sRULE_HIGH sRULE_FIRST sMAN_LOW sMAN_HIGH sMAN_FIRST thnc tndeb tdiehwn vhnc vndeb vdiehwn) 446 = sMAN_FIRST from kadr_ge (by decide))]
      exact TMAN_FIRST
  · rcases hstat6 h with rfl | rfl | rfl
    · rw [hT447] at h
      cases h
      rw [(show kadr adB (hst9 sRULE_LOW sRULE_HIGH sRULE_FIRST sMAN_LOW sMAN_HIGH sMAN_FIRST thnc tndeb tdiehwn vhnc vndeb vdiehwn) 447 = vhnc from kadr_ge (by decide))]
      exact Tvhnc
    · rw [hT449] at h
      cases h
      rw [(show kadr adB (hst9 sRULE_LOW sRULE_HIGH sRULE_FIRST sMAN_LOW sMAN_HIGH sMAN_FIRST thnc tndeb tdiehwn vhnc vndeb vdiehwn) 449 = vndeb from kadr_ge (by decide))]
      exact Tvndeb
    · rw [hT451] at h
      cases h
      rw [(show kadr adB (hst9 sRULE_LOW sRULE_HIGH sRULE_FIRST sMAN_LOW sMAN_HIGH sMAN_FIRST thnc tndeb tdiehwn vhnc vndeb vdiehwn) 451 = vdiehwn from kadr_ge (by decide))]
      exact Tvdiehwn
  · rcases hstat5 h with rfl | rfl | rfl
    · rw [hT448] at h
      cases h
      rw [(show kadr adB (hst9 sRULE_LOW sRULE_HIGH sRULE_FIRST sMAN_LOW sMAN_HIGH sMAN_FIRST thnc tndeb tdiehwn vhnc vndeb vdiehwn) 448 = thnc from kadr_ge (by decide)), (show kadr adB (hst9 sRULE_LOW sRULE_HIGH sRULE_FIRST sMAN_LOW sMAN_HIGH sMAN_FIRST thnc tndeb tdiehwn vhnc vndeb vdiehwn) 447 = vhnc from kadr_ge (by decide))]
      exact ⟨othnc, cthnc, fthnc⟩
    · rw [hT450] at h
      cases h
      rw [(show kadr adB (hst9 sRULE_LOW sRULE_HIGH sRULE_FIRST sMAN_LOW sMAN_HIGH sMAN_FIRST thnc tndeb tdiehwn vhnc vndeb vdiehwn) 450 = tndeb from kadr_ge (by decide)), (show kadr adB (hst9 sRULE_LOW sRULE_HIGH sRULE_FIRST sMAN_LOW sMAN_HIGH sMAN_FIRST thnc tndeb tdiehwn vhnc vndeb vdiehwn) 449 = vndeb from kadr_ge (by decide))]
      exact ⟨otndeb, ctndeb, ftndeb⟩
    · rw [hT452] at h
      cases h
      rw [(show kadr adB (hst9 sRULE_LOW sRULE_HIGH sRULE_FIRST sMAN_LOW sMAN_HIGH sMAN_FIRST thnc tndeb tdiehwn vhnc vndeb vdiehwn) 452 = tdiehwn from kadr_ge (by decide)), (show kadr adB (hst9 sRULE_LOW sRULE_HIGH sRULE_FIRST sMAN_LOW sMAN_HIGH sMAN_FIRST thnc tndeb tdiehwn vhnc vndeb vdiehwn) 451 = vdiehwn from kadr_ge (by decide))]
      exact ⟨otdiehwn, ctdiehwn, ftdiehwn⟩
  · unfold yGl at hz
    simp only [List.mem_cons, List.not_mem_nil, or_false] at hz
    rcases hz with rfl | rfl | rfl | rfl | rfl | rfl | rfl
    · exact va_Zof (hts0 (.laysStatic "java/lang/String" "COMPACT_STRINGS" "Z") (by decide +kernel)) (hts0 (.initialized "java/lang/String") (by decide +kernel)) (va_eqt (hs9 (.eq (Term.static "java/lang/String" "COMPACT_STRINGS" "Z") (.int 1)) (by decide +kernel))) hnA
    · show va_Z RX2 "RULE_LOW" "[I" (.ref (kadr adB (hst9 sRULE_LOW sRULE_HIGH sRULE_FIRST sMAN_LOW sMAN_HIGH sMAN_FIRST thnc tndeb tdiehwn vhnc vndeb vdiehwn) 441)) _ _ _
      rw [(show kadr adB (hst9 sRULE_LOW sRULE_HIGH sRULE_FIRST sMAN_LOW sMAN_HIGH sMAN_FIRST thnc tndeb tdiehwn vhnc vndeb vdiehwn) 441 = sRULE_LOW from kadr_ge (by decide))]
      exact va_Zref (hts0 (.laysStatic RX2 "RULE_LOW" "[I") (by decide +kernel)) (hts0 (.initialized RX2) (by decide +kernel)) eRULE_LOW hnA
    · show va_Z RX2 "RULE_HIGH" "[I" (.ref (kadr adB (hst9 sRULE_LOW sRULE_HIGH sRULE_FIRST sMAN_LOW sMAN_HIGH sMAN_FIRST thnc tndeb tdiehwn vhnc vndeb vdiehwn) 442)) _ _ _
      rw [(show kadr adB (hst9 sRULE_LOW sRULE_HIGH sRULE_FIRST sMAN_LOW sMAN_HIGH sMAN_FIRST thnc tndeb tdiehwn vhnc vndeb vdiehwn) 442 = sRULE_HIGH from kadr_ge (by decide))]
      exact va_Zref (hts0 (.laysStatic RX2 "RULE_HIGH" "[I") (by decide +kernel)) (hts0 (.initialized RX2) (by decide +kernel)) eRULE_HIGH hnA
    · show va_Z RX2 "RULE_FIRST" "[I" (.ref (kadr adB (hst9 sRULE_LOW sRULE_HIGH sRULE_FIRST sMAN_LOW sMAN_HIGH sMAN_FIRST thnc tndeb tdiehwn vhnc vndeb vdiehwn) 443)) _ _ _
      rw [(show kadr adB (hst9 sRULE_LOW sRULE_HIGH sRULE_FIRST sMAN_LOW sMAN_HIGH sMAN_FIRST thnc tndeb tdiehwn vhnc vndeb vdiehwn) 443 = sRULE_FIRST from kadr_ge (by decide))]
      exact va_Zref (hts0 (.laysStatic RX2 "RULE_FIRST" "[I") (by decide +kernel)) (hts0 (.initialized RX2) (by decide +kernel)) eRULE_FIRST hnA
    · show va_Z RX2 "MAN_LOW" "[I" (.ref (kadr adB (hst9 sRULE_LOW sRULE_HIGH sRULE_FIRST sMAN_LOW sMAN_HIGH sMAN_FIRST thnc tndeb tdiehwn vhnc vndeb vdiehwn) 444)) _ _ _
      rw [(show kadr adB (hst9 sRULE_LOW sRULE_HIGH sRULE_FIRST sMAN_LOW sMAN_HIGH sMAN_FIRST thnc tndeb tdiehwn vhnc vndeb vdiehwn) 444 = sMAN_LOW from kadr_ge (by decide))]
      exact va_Zref (hts0 (.laysStatic RX2 "MAN_LOW" "[I") (by decide +kernel)) (hts0 (.initialized RX2) (by decide +kernel)) eMAN_LOW hnA
    · show va_Z RX2 "MAN_HIGH" "[I" (.ref (kadr adB (hst9 sRULE_LOW sRULE_HIGH sRULE_FIRST sMAN_LOW sMAN_HIGH sMAN_FIRST thnc tndeb tdiehwn vhnc vndeb vdiehwn) 445)) _ _ _
      rw [(show kadr adB (hst9 sRULE_LOW sRULE_HIGH sRULE_FIRST sMAN_LOW sMAN_HIGH sMAN_FIRST thnc tndeb tdiehwn vhnc vndeb vdiehwn) 445 = sMAN_HIGH from kadr_ge (by decide))]
      exact va_Zref (hts0 (.laysStatic RX2 "MAN_HIGH" "[I") (by decide +kernel)) (hts0 (.initialized RX2) (by decide +kernel)) eMAN_HIGH hnA
    · show va_Z RX2 "MAN_FIRST" "[I" (.ref (kadr adB (hst9 sRULE_LOW sRULE_HIGH sRULE_FIRST sMAN_LOW sMAN_HIGH sMAN_FIRST thnc tndeb tdiehwn vhnc vndeb vdiehwn) 446)) _ _ _
      rw [(show kadr adB (hst9 sRULE_LOW sRULE_HIGH sRULE_FIRST sMAN_LOW sMAN_HIGH sMAN_FIRST thnc tndeb tdiehwn vhnc vndeb vdiehwn) 446 = sMAN_FIRST from kadr_ge (by decide))]
      exact va_Zref (hts0 (.laysStatic RX2 "MAN_FIRST" "[I") (by decide +kernel)) (hts0 (.initialized RX2) (by decide +kernel)) eMAN_FIRST hnA
  · unfold ySl at hz
    simp only [List.mem_cons, List.not_mem_nil, or_false] at hz
    rcases hz with rfl | rfl | rfl
    · show vk_R RX2 65 "hnc" (kadr adB (hst9 sRULE_LOW sRULE_HIGH sRULE_FIRST sMAN_LOW sMAN_HIGH sMAN_FIRST thnc tndeb tdiehwn vhnc vndeb vdiehwn) 448) s
      rw [(show kadr adB (hst9 sRULE_LOW sRULE_HIGH sRULE_FIRST sMAN_LOW sMAN_HIGH sMAN_FIRST thnc tndeb tdiehwn vhnc vndeb vdiehwn) 448 = thnc from kadr_ge (by decide))]
      exact rthnc
    · show vk_R RX2 80 "ndeb" (kadr adB (hst9 sRULE_LOW sRULE_HIGH sRULE_FIRST sMAN_LOW sMAN_HIGH sMAN_FIRST thnc tndeb tdiehwn vhnc vndeb vdiehwn) 450) s
      rw [(show kadr adB (hst9 sRULE_LOW sRULE_HIGH sRULE_FIRST sMAN_LOW sMAN_HIGH sMAN_FIRST thnc tndeb tdiehwn vhnc vndeb vdiehwn) 450 = tndeb from kadr_ge (by decide))]
      exact rtndeb
    · show vk_R RX4 70 "diehwn" (kadr adB (hst9 sRULE_LOW sRULE_HIGH sRULE_FIRST sMAN_LOW sMAN_HIGH sMAN_FIRST thnc tndeb tdiehwn vhnc vndeb vdiehwn) 452) s
      rw [(show kadr adB (hst9 sRULE_LOW sRULE_HIGH sRULE_FIRST sMAN_LOW sMAN_HIGH sMAN_FIRST thnc tndeb tdiehwn vhnc vndeb vdiehwn) 452 = tdiehwn from kadr_ge (by decide))]
      exact rtdiehwn
