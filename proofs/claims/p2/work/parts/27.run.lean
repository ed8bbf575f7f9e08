/-! the run: a method's instructions, its calls, its end -/
/-- a method's locals at its start -/
def zent : Nat → List zV → zL
  | _, [] => []
  | k, v :: vs => (k, v) :: zent (if zcat v = 2 then k + 2 else k + 1) vs
theorem zent_c (ad : Nat → Nat) : ∀ (vs : List zV) (k : Nat), lv_args k (vs.map (zv ad)) = zc ad (zent k vs)
  | [], _ => rfl
  | v :: vs, k => by
    show (k, zv ad v) :: lv_args (if (zv ad v).category = 2 then k + 2 else k + 1) (vs.map (zv ad)) = (k, zv ad v) :: zc ad (zent (if zcat v = 2 then k + 2 else k + 1) vs)
    rw [zv_cat, zent_c ad vs]
theorem zcat_or (v : zV) : zcat v = 1 ∨ zcat v = 2 := by
  rcases v with x | x | k
  · exact Or.inl rfl
  · exact Or.inr rfl
  · exact Or.inl rfl
theorem zlgsl (ad : Nat → Nat) : ∀ (vs : List zV), (lg_sl (vs.map (zv ad))).length = (vs.map zcat).sum
  | [] => rfl
  | v :: vs => by
    have ih := zlgsl ad vs
    unfold lg_sl at ih ⊢
    rw [List.map_cons, List.flatMap_cons, List.length_append, ih, List.map_cons, List.sum_cons, zv_cat]
    rcases zcat_or v with q | q <;> rw [q] <;> rfl
/-- a method's end -/
def zend (ret : Option FieldType) (i : Instr) (stk : List zV) : Option (Option zV) := match i, stk, ret with
  | .ireturn, [.inl x], some .int => some (some (.inl x))
  | .ireturn, [.inl x], some .boolean => if x = 0 ∨ x = 1 then some (some (.inl x)) else none
  | .ireturn, [.inl x], some .byte => if x = 0 then some (some (.inl x)) else none
  | .lreturn, [.inr (.inl x)], some .long => some (some (.inr (.inl x)))
  | .return_, [], none => some none
  | _, _, _ => none
/-- the receiver's class: kc its number; 99 a text -/
def zrcv (tab : Nat → (Nat × List Nat) ⊕ (Nat × Nat × List Nat)) (kc : Nat) (args : List zV) : Bool := match args with
  | .inr (.inr k) :: _ => (match tab k with
    | .inl (ci, _) => ci == kc
    | .inr (t, _, _) => t == 5 && kc == 99)
  | _ => false
section ZRUN
variable (tab : Nat → (Nat × List Nat) ⊕ (Nat × Nat × List Nat)) (pI : Nat → Nat → Option Instr) (mL : Nat → Nat) (mR : Nat → Option FieldType) (fld : Nat → Nat → Option (Nat × Nat × Nat)) (kI : Nat → Nat → Option Int32) (kL : Nat → Nat → Option Int64) (gst : Nat → Nat → Option zV) (ldS fldS : Nat → Nat → Option Nat) (acp : Nat → Nat → Bool) (cal : Nat → Nat → Option (Nat × Nat × Nat))
def zst (mid : Nat) (i : Instr) (pc : Nat) (loc : zL) (stk : List zV) (h : zH) : Option zN := match zf1 i pc loc stk h with
  | some q => some q
  | none => match zf2 tab (fld mid) i pc loc stk h with
    | some q => some q
    | none => match zf4 i pc loc stk h with
      | some q => some q
      | none => match zf5 (kI mid) (kL mid) i pc loc stk h with
        | some q => some q
        | none => zf6 tab (gst mid) (ldS mid) (fldS mid) (acp mid) i pc loc stk h
def zcl (mid : Nat) (i : Instr) (stk : List zV) : Option (Nat × List zV × List zV) := match i with
  | .invokevirtual idx => (match cal mid idx with
    | some (callee, na, kc) => if (decide (kc < 100) && decide (na ≤ stk.length) && decide (((stk.drop na).map zcat).sum ≤ 8) && decide (((stk.take na).reverse.map zcat).sum ≤ mL callee) && zrcv tab kc (stk.take na).reverse) = true then some (callee, (stk.take na).reverse, stk.drop na) else none
    | none => none)
  | .invokestatic idx => (match cal mid idx with
    | some (callee, na, kc) => if (decide (kc = 100) && decide (na ≤ stk.length) && decide (((stk.drop na).map zcat).sum ≤ 8) && decide (((stk.take na).reverse.map zcat).sum ≤ mL callee)) = true then some (callee, (stk.take na).reverse, stk.drop na) else none
    | none => none)
  | _ => none
def zrun : Nat → Nat → Nat → Nat → zL → List zV → zH → Option (Option zV × zH)
  | 0, _, _, _, _, _, _ => none
  | n + 1, d, mid, pc, loc, stk, h => match pI mid pc with
    | none => none
    | some i => match zcl tab mL cal mid i stk with
      | some (callee, args, rest) => (match d with
        | 0 => none
        | d' + 1 => match zrun n d' callee 0 (zent 0 args) [] h with
          | some (r, h1) => zrun n (d' + 1) mid (pc + 3) loc (r.toList ++ rest) h1
          | none => none)
      | none => match zend (mR mid) i stk with
        | some r => some (r, h)
        | none => match zst tab fld kI kL gst ldS fldS acp mid i pc loc stk h with
          | some q => zrun n d mid q.1 q.2.1 q.2.2.1 q.2.2.2
          | none => none
end ZRUN
section ZSND
variable {tab : Nat → (Nat × List Nat) ⊕ (Nat × Nat × List Nat)} {pI : Nat → Nat → Option Instr} {mY : Nat → MethodName} {mC : Nat → ByteArray} {mL : Nat → Nat} {mR : Nat → Option FieldType} {fld : Nat → Nat → Option (Nat × Nat × Nat)} {kI : Nat → Nat → Option Int32} {kL : Nat → Nat → Option Int64} {gst : Nat → Nat → Option zV} {ldS fldS : Nat → Nat → Option Nat} {acp : Nat → Nat → Bool} {cal : Nat → Nat → Option (Nat × Nat × Nat)}
variable {cI cZ cQ cG : ClassId} {dC : Nat → ClassId} {dI : Nat → Nat → Nat} {ad : Nat → Nat} {N : Nat} {ALL : List Cond} {gl : List (String × String × String × zV)} {sl : List (String × Nat × String × Nat)}
def zrm (d : Nat) : Room := { frames := d + 1, cells := 0, slots := 0, locals := 40 * d + 200 }
def zwsM (mY : Nat → MethodName) (mC : Nat → ByteArray) (mL : Nat → Nat) (mR : Nat → Option FieldType) (ALL : List Cond) (mid : Nat) : List Cond := Cond.code (mY mid) (mC mid) (mL mid) (mR mid) :: ALL
/-- what the program's tables must keep to -/
def zSwi : Instr → Bool
  | .tableswitch .. => true
  | .lookupswitch .. => true
  | _ => false
def zOkI (pI : Nat → Nat → Option Instr) (mC : Nat → ByteArray) (mL : Nat → Nat) : Prop := ∀ mid pc i, pI mid pc = some i → zok (mL mid) i = true ∧ ∃ n, decode (mC mid) pc = .ok (i, n) ∧ (zSwi i = true ∨ n = zlen i)
def zOkL (mY : Nat → MethodName) (fld : Nat → Nat → Option (Nat × Nat × Nat)) (kI : Nat → Nat → Option Int32) (kL : Nat → Nat → Option Int64) (gst : Nat → Nat → Option zV) (ldS fldS : Nat → Nat → Option Nat) (acp : Nat → Nat → Bool) (ALL : List Cond) (gl : List (String × String × String × zV)) (sl : List (String × Nat × String × Nat)) : Prop := ∀ mid,
  zFldOk ALL (mY mid).cls (fld mid) ∧ (∀ x v, kI mid x = some v → Cond.constant (mY mid).cls x v ∈ ALL) ∧ (∀ x v, kL mid x = some v → Cond.constantLong (mY mid).cls x v ∈ ALL) ∧
  (∀ idx v, gst mid idx = some v → ∃ z ∈ gl, z.2.2.2 = v ∧ Cond.fieldLink (mY mid).cls idx z.1 z.2.1 z.2.2.1 ∈ ALL) ∧ (∀ idx k, ldS mid idx = some k → ∃ tx, ((mY mid).cls, idx, tx, k) ∈ sl) ∧
  (∀ idx t, fldS mid idx = some t → Cond.fieldLink (mY mid).cls idx "java/lang/String" (if t = 0 then "value" else "coder") (if t = 0 then "[B" else "B") ∈ ALL) ∧
  (∀ idx, acp mid idx = true → Cond.methodLink (mY mid).cls idx arraycopyName ∈ ALL ∧ Cond.native arraycopyName ∈ ALL ∧ Cond.static arraycopyName ∈ ALL ∧ Cond.initialized "java/lang/System" ∈ ALL)
def zOkC (mY : Nat → MethodName) (mC : Nat → ByteArray) (mL : Nat → Nat) (mR : Nat → Option FieldType) (cal : Nat → Nat → Option (Nat × Nat × Nat)) (ALL : List Cond) : Prop := ∀ mid idx callee na kc, cal mid idx = some (callee, na, kc) →
  Cond.code (mY callee) (mC callee) (mL callee) (mR callee) ∈ ALL ∧ plainName (mY callee).cls = true ∧ mL callee ≤ 21 ∧ Cond.methodLink (mY mid).cls idx (mY callee) ∈ ALL ∧ Cond.initialized (mY callee).cls ∈ ALL ∧ (mY callee).cls ≠ "java/lang/invoke/MethodHandle" ∧ (mY callee).cls ≠ "java/lang/invoke/VarHandle" ∧
  (kc = 100 → Cond.static (mY callee) ∈ ALL ∧ (parseMethodDescriptor (mY callee).desc).map (fun d => d.parameters.length) = some na) ∧
  (kc < 100 → 0 < na ∧ Cond.instanceMethod (mY callee) ∈ ALL ∧ Cond.selects (mY callee).cls (mY callee) (mY callee) ∈ ALL ∧ (parseMethodDescriptor (mY callee).desc).map (fun d => d.parameters.length) = some (na - 1) ∧
    ((kc = 99 ∧ (mY callee).cls = "java/lang/String") ∨ (kc < 99 ∧ ∃ q : vw_C, vwCl[kc]? = some q ∧ q.1 = (mY callee).cls)))
def zPreM (tab : Nat → (Nat × List Nat) ⊕ (Nat × Nat × List Nat)) (gl : List (String × String × String × zV)) (sl : List (String × Nat × String × Nat)) (cI cZ cQ cG : ClassId) (dC : Nat → ClassId) (dI : Nat → Nat → Nat) (ad : Nat → Nat) (N sz : Nat) (h : zH) (U : State) : Prop := U.heap.size = sz ∧ va_P (dC, dI) vwCl (zW tab cI cZ cQ cG ad N h) U.heap ∧ va_K (dC, dI) vwCl (zTy cI cZ cQ cG) U ∧ zTT tab gl sl ad (zA ad N sz) U U.heap
theorem zBlindM {av : List Value} {sz : Nat} {h : zH} : FrameBlind (va_Pc av (zPreM tab gl sl cI cZ cQ cG dC dI ad N sz h)) := fun a U g mk q => by
  obtain ⟨q0, q1, qP, qK, qT⟩ := q
  exact ⟨q0, q1, qP, va_K.moved (u := U) (U := U.calling g mk a) (Vm.Alike.refl U.vm) qK, zTT.same (u := U) (U := U.calling g mk a) rfl qT⟩
theorem zA_mono {a b : Nat} (hab : a ≤ b) : ∀ q, zA ad N b q → zA ad N a q := fun q h => by
  rcases h with h | h
  · exact Or.inl h
  · exact Or.inr (Nat.le_trans hab h)
theorem zst_or {mid : Nat} {i : Instr} {pc : Nat} {loc : zL} {stk : List zV} {h : zH} {q : zN} (e : zst tab fld kI kL gst ldS fldS acp mid i pc loc stk h = some q) : zf1 i pc loc stk h = some q ∨ zf2 tab (fld mid) i pc loc stk h = some q ∨ zf4 i pc loc stk h = some q ∨ zf5 (kI mid) (kL mid) i pc loc stk h = some q ∨ zf6 tab (gst mid) (ldS mid) (fldS mid) (acp mid) i pc loc stk h = some q := by
  unfold zst at e
  cases h1 : zf1 i pc loc stk h with
  | some q1 => rw [h1] at e; exact Or.inl e
  | none =>
    rw [h1] at e
    cases h2 : zf2 tab (fld mid) i pc loc stk h with
    | some q1 => rw [h2] at e; exact Or.inr (Or.inl e)
    | none =>
      rw [h2] at e
      cases h3 : zf4 i pc loc stk h with
      | some q1 => rw [h3] at e; exact Or.inr (Or.inr (Or.inl e))
      | none =>
        rw [h3] at e
        cases h4 : zf5 (kI mid) (kL mid) i pc loc stk h with
        | some q1 => rw [h4] at e; exact Or.inr (Or.inr (Or.inr (Or.inl e)))
        | none => rw [h4] at e; exact Or.inr (Or.inr (Or.inr (Or.inr e)))
theorem zf1_ns {i : Instr} {pc : Nat} {loc : zL} {stk : List zV} {h : zH} {q : zN} (e : zf1 i pc loc stk h = some q) : zSwi i = false := by
  cases i <;> first | rfl | cases e
theorem zf2_ns {f : Nat → Option (Nat × Nat × Nat)} {i : Instr} {pc : Nat} {loc : zL} {stk : List zV} {h : zH} {q : zN} (e : zf2 tab f i pc loc stk h = some q) : zSwi i = false := by
  cases i <;> first | rfl | cases e
theorem zf5_ns {a : Nat → Option Int32} {b : Nat → Option Int64} {i : Instr} {pc : Nat} {loc : zL} {stk : List zV} {h : zH} {q : zN} (e : zf5 a b i pc loc stk h = some q) : zSwi i = false := by
  cases i <;> first | rfl | cases e
theorem zf6_ns {a : Nat → Option zV} {b b2 : Nat → Option Nat} {b3 : Nat → Bool} {i : Instr} {pc : Nat} {loc : zL} {stk : List zV} {h : zH} {q : zN} (e : zf6 tab a b b2 b3 i pc loc stk h = some q) : zSwi i = false := by
  cases i <;> first | rfl | cases e
theorem zf4_len {i : Instr} {n pc : Nat} {loc : zL} {stk : List zV} {h : zH} {q : zN} (e : zf4 i pc loc stk h = some q) (hn : zSwi i = true ∨ n = zlen i) : (match i with | .tableswitch .. => True | .lookupswitch .. => True | _ => n = 1) := by
  cases i <;> first | exact trivial | (cases e; done) | (rcases hn with q | q <;> first | exact q | cases q)
end ZSND
