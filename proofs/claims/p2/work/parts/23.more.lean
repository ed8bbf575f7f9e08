/-! longs, switches, constants -/
def zst4 (i : Instr) (pc : Nat) (loc : zL) (stk : List zV) (K : Nat → zL → List zV → Prop) : Prop := match i with
  | .lcmp => zL2 stk (fun x y r => K (pc + 1) loc (.inl (lg_cmp x y) :: r))
  | .ldiv => zL2 stk (fun x y r => ¬ y = 0 ∧ K (pc + 1) loc (.inr (.inl (x / y)) :: r))
  | .lrem => zL2 stk (fun x y r => ¬ y = 0 ∧ K (pc + 1) loc (.inr (.inl (x - x / y * y)) :: r))
  | .lushr => match stk with
    | .inl y :: .inr (.inl x) :: r => K (pc + 1) loc (.inr (.inl (x.toUInt64 >>> (y.toInt64.toUInt64 &&& Int64.toUInt64 63)).toInt64) :: r)
    | _ => False
  | .lshl => match stk with
    | .inl y :: .inr (.inl x) :: r => K (pc + 1) loc (.inr (.inl (x <<< (y.toInt64 &&& 63))) :: r)
    | _ => False
  | .tableswitch d lo hi offs => zI1 stk (fun x r => zif (x.toInt < lo ∨ hi < x.toInt) (0 ≤ (pc : Int) + d ∧ K (ztgt pc d) loc r) (match offs[(x.toInt - lo).toNat]? with
    | some off => 0 ≤ (pc : Int) + off ∧ K (ztgt pc off) loc r
    | none => False))
  | .lookupswitch d ps => zI1 stk (fun x r => (ps.toList.zip (ps.toList.drop 1)).all (fun (a, next) => a.1 < next.1) = true ∧ 0 ≤ (pc : Int) + Op.lookupswitch.offset ps.toList d x.toInt ∧ K (ztgt pc (Op.lookupswitch.offset ps.toList d x.toInt)) loc r)
  | _ => False
section ZS4
variable {p : Program} {l : Launch} {e : Env} {R : Room} {s : State} {m : MethodId} {args : Array Value} {below : List Frame} {meth : Method} {c : Code} {H : Heap} {locs : List Loc} {cells slots : Nat} {Q : State → Prop} {cc : ByteArray} {ad : Nat → Nat} {nL : Nat}
set_option maxHeartbeats 8000000 in
theorem zst4_sound (hx : p.tables.exec = Jvm.exec) (hb : c.code = cc) {i : Instr} {n pc : Nat} {loc : zL} {stk : List zV} {ls : Array Slot} {K : Nat → zL → List zV → Prop} (hdg : decode cc pc = .ok (i, n)) (hn : (match i with | .tableswitch .. => True | .lookupswitch .. => True | _ => n = 1)) (hl : lv_has ls nL (zc ad loc)) (hw : zst4 i pc loc stk K)
    (kk : ∀ (pc' : Nat) (loc' : zL) (stk' : List zV) (ls' : Array Slot), lv_has ls' nL (zc ad loc') → K pc' loc' stk' → W p l e R s m args below meth c H locs cells slots Q (F0 m pc' ls' (stk'.map (zv ad)))) : W p l e R s m args below meth c H locs cells slots Q (F0 m pc ls (stk.map (zv ad))) := by
  cases i
  case lcmp =>
    obtain rfl : n = 1 := hn
    obtain ⟨x, y, r, rfl, hw⟩ := zL2_el hw
    have k9 := kk _ _ _ _ hl hw
    exact W.lcmp hx hb hdg k9
  case ldiv =>
    obtain rfl : n = 1 := hn
    obtain ⟨x, y, r, rfl, hy, hw⟩ := zL2_el hw
    have k9 := kk _ _ _ _ hl hw
    exact lv_ldiv hx hb hdg hy k9
  case lrem =>
    obtain rfl : n = 1 := hn
    obtain ⟨x, y, r, rfl, hy, hw⟩ := zL2_el hw
    have k9 := kk _ _ _ _ hl hw
    exact lv_lrem hx hb hdg hy k9
  case lushr =>
    obtain rfl : n = 1 := hn
    match stk, hw with
    | .inl y :: .inr (.inl x) :: r, hw =>
      have k9 := kk _ _ _ _ hl hw
      exact lv_lushr hx hb hdg rfl k9
  case lshl =>
    obtain rfl : n = 1 := hn
    match stk, hw with
    | .inl y :: .inr (.inl x) :: r, hw =>
      have k9 := kk _ _ _ _ hl hw
      exact lv_lshl hx hb hdg rfl k9
  case tableswitch d lo hi offs =>
    obtain ⟨x, r, rfl, hw⟩ := zI1_el hw
    by_cases h : x.toInt < lo ∨ hi < x.toInt
    · obtain ⟨h1, h2⟩ := hw.1 h
      have k9 := kk _ _ _ _ hl h2
      exact lv_tableOut hx hb hdg h (ztgt_eq h1) k9
    · have h3 := hw.2 h
      cases ho : offs[(x.toInt - lo).toNat]? with
      | none => rw [ho] at h3; exact h3.elim
      | some off =>
        rw [ho] at h3
        have k9 := kk _ _ _ _ hl h3.2
        exact lv_tableIn hx hb hdg (fun q => h (Or.inl q)) (fun q => h (Or.inr q)) ho (ztgt_eq h3.1) k9
  case lookupswitch d ps =>
    obtain ⟨x, r, rfl, h0, h1, hw⟩ := zI1_el hw
    have k9 := kk _ _ _ _ hl hw
    exact lv_lookup hx hb hdg h0 rfl (ztgt_eq h1) k9
  all_goals exact False.elim hw
end ZS4
/-- constants: kI, kL by the link's number -/
def zst5 (kI : Nat → Option Int32) (kL : Nat → Option Int64) (i : Instr) (pc : Nat) (loc : zL) (stk : List zV) (K : Nat → zL → List zV → Prop) : Prop := match i with
  | .ldc x => (match kI x with
    | some v => K (pc + 2) loc (.inl v :: stk)
    | none => False)
  | .ldc_w x => (match kI x with
    | some v => K (pc + 3) loc (.inl v :: stk)
    | none => False)
  | .ldc2_w x => (match kL x with
    | some v => K (pc + 3) loc (.inr (.inl v) :: stk)
    | none => False)
  | _ => False
section ZS5
variable {p : Program} {l : Launch} {e : Env} {R : Room} {s : State} {m : MethodId} {args : Array Value} {below : List Frame} {meth : Method} {c : Code} {H : Heap} {locs : List Loc} {cells slots : Nat} {Q : State → Prop} {cc : ByteArray} {ad : Nat → Nat} {nL : Nat} {Ts : List Cond} {own : String}
set_option maxHeartbeats 8000000 in
theorem zst5_sound (hx : p.tables.exec = Jvm.exec) (hb : c.code = cc) (hts : ∀ w ∈ Ts, w.before args s = true) (hown : s.vm.findClass own = some m.cls) {kI : Nat → Option Int32} {kL : Nat → Option Int64} (hkI : ∀ x v, kI x = some v → Cond.constant own x v ∈ Ts) (hkL : ∀ x v, kL x = some v → Cond.constantLong own x v ∈ Ts)
    {i : Instr} {pc : Nat} {loc : zL} {stk : List zV} {ls : Array Slot} {K : Nat → zL → List zV → Prop} (hdg : decode cc pc = .ok (i, zlen i)) (hl : lv_has ls nL (zc ad loc)) (hw : zst5 kI kL i pc loc stk K)
    (kk : ∀ (pc' : Nat) (loc' : zL) (stk' : List zV) (ls' : Array Slot), lv_has ls' nL (zc ad loc') → K pc' loc' stk' → W p l e R s m args below meth c H locs cells slots Q (F0 m pc' ls' (stk'.map (zv ad)))) : W p l e R s m args below meth c H locs cells slots Q (F0 m pc ls (stk.map (zv ad))) := by
  cases i
  case ldc x =>
    simp only [zst5] at hw
    cases hv : kI x with
    | none => rw [hv] at hw; exact False.elim hw
    | some v =>
      rw [hv] at hw
      have k9 := kk _ _ _ _ hl hw
      exact lv_ldc hx hb hown (hts _ (hkI x v hv)) hdg k9
  case ldc_w x =>
    simp only [zst5] at hw
    cases hv : kI x with
    | none => rw [hv] at hw; exact False.elim hw
    | some v =>
      rw [hv] at hw
      have k9 := kk _ _ _ _ hl hw
      exact lv_ldcw hx hb hown (hts _ (hkI x v hv)) hdg k9
  case ldc2_w x =>
    simp only [zst5] at hw
    cases hv : kL x with
    | none => rw [hv] at hw; exact False.elim hw
    | some v =>
      rw [hv] at hw
      have k9 := kk _ _ _ _ hl hw
      exact lv_ldc2 hx hb hown (hts _ (hkL x v hv)) hdg k9
  all_goals exact False.elim hw
end ZS5
