/-! the function: cells, longs, switches, constants -/
def zin (x : Int32) (n : Nat) : Bool := decide (0 ≤ x.toInt ∧ x.toInt < (n : Int))
theorem zin_in {x : Int32} {n : Nat} (h : zin x n = true) : vp_in x n := by
  have h := of_decide_eq_true h
  rintro (q | q)
  · have := Int32.lt_iff_toInt_lt.mp q
    simp at this
    omega
  · have e : x.toNatClampNeg = x.toInt.toNat := rfl
    omega
/-- the place of a field: its number, its kind in the cell, its kind by the link -/
def zfo (tab : Nat → (Nat × List Nat) ⊕ (Nat × Nat × List Nat)) (fld : Nat → Option (Nat × Nat × Nat)) (k idx : Nat) : Option (Nat × Nat × Nat) := match tab k, fld idx with
  | .inl (ci, fk), some (cj, fi, b) => if ci = cj then (match fk[fi]? with
    | some t => some (fi, t, b)
    | none => none) else none
  | _, _ => none
theorem zfo_el {tab : Nat → (Nat × List Nat) ⊕ (Nat × Nat × List Nat)} {fld : Nat → Option (Nat × Nat × Nat)} {k idx fi t b : Nat} (h : zfo tab fld k idx = some (fi, t, b)) : ∃ ci fk, tab k = .inl (ci, fk) ∧ fld idx = some (ci, fi, b) ∧ fk[fi]? = some t := by
  unfold zfo at h
  cases ht : tab k with
  | inr z => rw [ht] at h; cases h
  | inl z =>
    obtain ⟨ci, fk⟩ := z
    cases hf : fld idx with
    | none => rw [ht, hf] at h; cases h
    | some z =>
      obtain ⟨cj, fj, b2⟩ := z
      simp only [ht, hf] at h
      by_cases e : ci = cj
      · rw [if_pos e] at h
        subst e
        cases hk : fk[fj]? with
        | none => rw [hk] at h; cases h
        | some t2 => rw [hk] at h; cases h; exact ⟨ci, fk, rfl, rfl, hk⟩
      · rw [if_neg e] at h; cases h
/-- a row of kind t0: its length, what it is made of -/
def zar (tab : Nat → (Nat × List Nat) ⊕ (Nat × Nat × List Nat)) (k t0 : Nat) : Option (Nat × List Nat) := match tab k with
  | .inr (t, n, q) => if t = t0 then some (n, q) else none
  | _ => none
theorem zar_el {tab : Nat → (Nat × List Nat) ⊕ (Nat × Nat × List Nat)} {k t0 n : Nat} {q : List Nat} (h : zar tab k t0 = some (n, q)) : tab k = .inr (t0, n, q) := by
  unfold zar at h
  cases ht : tab k with
  | inl z => rw [ht] at h; cases h
  | inr z =>
    obtain ⟨t, n2, q2⟩ := z
    simp only [ht] at h
    by_cases e : t = t0
    · rw [if_pos e] at h; cases h; rw [e]
    · rw [if_neg e] at h; cases h
def zoA (o : Option (Nat × List Nat)) (f : Nat → List Nat → Option zN) : Option zN := match o with
  | some (n, q) => f n q
  | none => none
theorem zoA_el {o : Option (Nat × List Nat)} {f : Nat → List Nat → Option zN} {z : zN} (h : zoA o f = some z) : ∃ n q, o = some (n, q) ∧ f n q = some z := by
  match o, h with
  | some (n, q), h => exact ⟨n, q, rfl, h⟩
def zoF (o : Option (Nat × Nat × Nat)) (f : Nat → Nat → Nat → Option zN) : Option zN := match o with
  | some (n, t, b) => f n t b
  | none => none
theorem zoF_el {o : Option (Nat × Nat × Nat)} {f : Nat → Nat → Nat → Option zN} {z : zN} (h : zoF o f = some z) : ∃ n t b, o = some (n, t, b) ∧ f n t b = some z := by
  match o, h with
  | some (n, t, b), h => exact ⟨n, t, b, rfl, h⟩
def zbit (b : Nat) (x : Int32) : Bool := decide (b ≤ 1) && (decide (b = 0) || decide (x = 0 ∨ x = 1))
theorem zbit_el {b : Nat} {x : Int32} (h : zbit b x = true) : b ≤ 1 ∧ (b = 1 → x = 0 ∨ x = 1) := by
  unfold zbit at h
  simp only [Bool.and_eq_true, Bool.or_eq_true, decide_eq_true_eq] at h
  refine ⟨h.1, fun e => ?_⟩
  rcases h.2 with q | q
  · omega
  · exact q
def zf2 (tab : Nat → (Nat × List Nat) ⊕ (Nat × Nat × List Nat)) (fld : Nat → Option (Nat × Nat × Nat)) (i : Instr) (pc : Nat) (loc : zL) (stk : List zV) (h : zH) : Option zN := match i with
  | .getfield idx => zoR1 stk (fun k r => zoF (zfo tab fld k idx) (fun fi t _ => some (pc + 3, loc, zfa h k fi t :: r, h)))
  | .putfield idx => match stk with
    | .inl x :: .inr (.inr k) :: r => zoF (zfo tab fld k idx) (fun fi t b => zgd (decide (t = 0)) (zgd (zbit b x) (some (pc + 3, loc, r, zs h k fi x))))
    | .inr (.inl x) :: .inr (.inr k) :: r => zoF (zfo tab fld k idx) (fun _ t b => zgd (decide (t = 1)) (zgd (decide (b = 2)) (some (pc + 3, loc, r, zsl h k x))))
    | _ => none
  | .iaload => zoRI stk (fun k x r => zoA (zar tab k 0) (fun n _ => zgd (zin x n) (some (pc + 1, loc, .inl (h.1 k x.toNatClampNeg) :: r, h))))
  | .baload => zoRI stk (fun k x r => zoA (zar tab k 1) (fun n _ => zgd (zin x n) (some (pc + 1, loc, .inl (h.1 k x.toNatClampNeg) :: r, h))))
  | .aaload => zoRI stk (fun k x r => match tab k with
    | .inr (t, n, q) => zgd (decide (t = 2 ∨ t = 3)) (zgd (zin x n) (match q[x.toNatClampNeg]? with
      | some z => some (pc + 1, loc, .inr (.inr z) :: r, h)
      | none => none))
    | _ => none)
  | .iastore => zoRII stk (fun k x v r => zoA (zar tab k 0) (fun n _ => zgd (zin x n) (some (pc + 1, loc, r, zs h k x.toNatClampNeg v))))
  | .bastore => zoRII stk (fun k x v r => zoA (zar tab k 1) (fun n _ => zgd (zin x n) (zgd (decide (v = 0 ∨ v = 1)) (some (pc + 1, loc, r, zs h k x.toNatClampNeg v)))))
  | .arraylength => zoR1 stk (fun k r => match tab k with
    | .inr (t, n, _) => zgd (decide (t ≤ 3)) (some (pc + 1, loc, .inl (Int32.ofNat n) :: r, h))
    | _ => none)
  | _ => none
set_option maxHeartbeats 8000000 in
theorem zf2_st {tab : Nat → (Nat × List Nat) ⊕ (Nat × Nat × List Nat)} {fld : Nat → Option (Nat × Nat × Nat)} {i : Instr} {pc : Nat} {loc : zL} {stk : List zV} {h : zH} {q : zN} (e : zf2 tab fld i pc loc stk h = some q) (K : Nat → zL → List zV → zH → Prop) (hK : K q.1 q.2.1 q.2.2.1 q.2.2.2) : zst2 tab fld i pc loc stk h K := by
  cases i
  case getfield idx =>
    obtain ⟨k, r, rfl, e⟩ := zoR1_el e
    obtain ⟨fi, t, b, e1, e⟩ := zoF_el e
    obtain ⟨ci, fk, h1, h2, h3⟩ := zfo_el e1
    cases e
    simp only [zst2, zR1, h1, h2, h3]
    exact ⟨trivial, hK⟩
  case putfield idx =>
    match stk, e with
    | .inl x :: .inr (.inr k) :: r, e =>
      obtain ⟨fi, t, b, e1, e⟩ := zoF_el e
      obtain ⟨ci, fk, h1, h2, h3⟩ := zfo_el e1
      obtain ⟨g1, e⟩ := zgd_el e
      obtain ⟨g2, e⟩ := zgd_el e
      cases e
      obtain ⟨b1, b2⟩ := zbit_el g2
      rw [of_decide_eq_true g1] at h3
      simp only [zst2, h1, h2]
      exact ⟨trivial, h3, b1, b2, hK⟩
    | .inr (.inl x) :: .inr (.inr k) :: r, e =>
      obtain ⟨fi, t, b, e1, e⟩ := zoF_el e
      obtain ⟨ci, fk, h1, h2, h3⟩ := zfo_el e1
      obtain ⟨g1, e⟩ := zgd_el e
      obtain ⟨g2, e⟩ := zgd_el e
      cases e
      rw [of_decide_eq_true g1] at h3
      simp only [zst2, h1, h2]
      exact ⟨trivial, h3, of_decide_eq_true g2, hK⟩
  case iaload =>
    obtain ⟨k, x, r, rfl, e⟩ := zoRI_el e
    obtain ⟨n, z, e1, e⟩ := zoA_el e
    have h1 := zar_el e1
    obtain ⟨g1, e⟩ := zgd_el e
    cases e
    simp only [zst2, h1]
    exact ⟨zin_in g1, hK⟩
  case baload =>
    obtain ⟨k, x, r, rfl, e⟩ := zoRI_el e
    obtain ⟨n, z, e1, e⟩ := zoA_el e
    have h1 := zar_el e1
    obtain ⟨g1, e⟩ := zgd_el e
    cases e
    simp only [zst2, h1]
    exact ⟨zin_in g1, hK⟩
  case aaload =>
    obtain ⟨k, x, r, e9, f9⟩ := zoRI_el e
    clear e
    subst e9
    have e := f9
    clear f9
    cases h1 : tab k with
    | inl z => rw [h1] at e; cases e
    | inr z =>
      obtain ⟨t, n, w⟩ := z
      simp only [h1] at e
      obtain ⟨g1, e⟩ := zgd_el e
      obtain ⟨g2, e⟩ := zgd_el e
      cases h2 : w[x.toNatClampNeg]? with
      | none => rw [h2] at e; cases e
      | some z =>
        rw [h2] at e
        cases e
        simp only [zst2, h1]
        exact ⟨of_decide_eq_true g1, zin_in g2, z, h2, hK⟩
  case iastore =>
    obtain ⟨k, x, v, r, rfl, e⟩ := zoRII_el e
    obtain ⟨n, z, e1, e⟩ := zoA_el e
    have h1 := zar_el e1
    obtain ⟨g1, e⟩ := zgd_el e
    cases e
    simp only [zst2, h1]
    exact ⟨zin_in g1, hK⟩
  case bastore =>
    obtain ⟨k, x, v, r, rfl, e⟩ := zoRII_el e
    obtain ⟨n, z, e1, e⟩ := zoA_el e
    have h1 := zar_el e1
    obtain ⟨g1, e⟩ := zgd_el e
    obtain ⟨g2, e⟩ := zgd_el e
    cases e
    simp only [zst2, h1]
    exact ⟨zin_in g1, of_decide_eq_true g2, hK⟩
  case arraylength =>
    obtain ⟨k, r, e9, f9⟩ := zoR1_el e
    clear e
    subst e9
    have e := f9
    clear f9
    cases h1 : tab k with
    | inl z => rw [h1] at e; cases e
    | inr z =>
      obtain ⟨t, n, w⟩ := z
      simp only [h1] at e
      obtain ⟨g1, e⟩ := zgd_el e
      cases e
      simp only [zst2, zR1, h1]
      exact ⟨of_decide_eq_true g1, hK⟩
  all_goals cases e
def zf4 (i : Instr) (pc : Nat) (loc : zL) (stk : List zV) (h : zH) : Option zN := match i with
  | .lcmp => zoL2 stk (fun x y r => some (pc + 1, loc, .inl (lg_cmp x y) :: r, h))
  | .ldiv => zoL2 stk (fun x y r => zgd (decide (¬ y = 0)) (some (pc + 1, loc, .inr (.inl (x / y)) :: r, h)))
  | .lrem => zoL2 stk (fun x y r => zgd (decide (¬ y = 0)) (some (pc + 1, loc, .inr (.inl (x - x / y * y)) :: r, h)))
  | .lushr => zoLI stk (fun x y r => some (pc + 1, loc, .inr (.inl (x.toUInt64 >>> (y.toInt64.toUInt64 &&& Int64.toUInt64 63)).toInt64) :: r, h))
  | .lshl => zoLI stk (fun x y r => some (pc + 1, loc, .inr (.inl (x <<< (y.toInt64 &&& 63))) :: r, h))
  | .tableswitch d lo hi offs => zo1 stk (fun x r => if x.toInt < lo ∨ hi < x.toInt then zj pc d loc r h else (match offs[(x.toInt - lo).toNat]? with
    | some off => zj pc off loc r h
    | none => none))
  | .lookupswitch d ps => zo1 stk (fun x r => zgd ((ps.toList.zip (ps.toList.drop 1)).all (fun (a, next) => a.1 < next.1)) (zj pc (Op.lookupswitch.offset ps.toList d x.toInt) loc r h))
  | _ => none
set_option maxHeartbeats 8000000 in
theorem zf4_st {i : Instr} {pc : Nat} {loc : zL} {stk : List zV} {h : zH} {q : zN} (e : zf4 i pc loc stk h = some q) (K : Nat → zL → List zV → zH → Prop) (hK : K q.1 q.2.1 q.2.2.1 q.2.2.2) : zst4 i pc loc stk (fun a b c => K a b c h) := by
  cases i
  case lcmp => obtain ⟨x, y, r, rfl, e⟩ := zoL2_el e; cases e; exact hK
  case ldiv => obtain ⟨x, y, r, rfl, e⟩ := zoL2_el e; obtain ⟨hb, e⟩ := zgd_el e; cases e; exact ⟨of_decide_eq_true hb, hK⟩
  case lrem => obtain ⟨x, y, r, rfl, e⟩ := zoL2_el e; obtain ⟨hb, e⟩ := zgd_el e; cases e; exact ⟨of_decide_eq_true hb, hK⟩
  case lushr => obtain ⟨x, y, r, rfl, e⟩ := zoLI_el e; cases e; exact hK
  case lshl => obtain ⟨x, y, r, rfl, e⟩ := zoLI_el e; cases e; exact hK
  case tableswitch d lo hi offs =>
    obtain ⟨x, r, e9, f9⟩ := zo1_el e
    clear e
    subst e9
    have e := f9
    clear f9
    refine ⟨fun hc => ?_, fun hc => ?_⟩
    · rw [if_pos hc] at e
      obtain ⟨h0, e⟩ := zj_el e
      cases e
      exact ⟨h0, hK⟩
    · rw [if_neg hc] at e
      cases ho : offs[(x.toInt - lo).toNat]? with
      | none => rw [ho] at e; cases e
      | some off =>
        rw [ho] at e
        obtain ⟨h0, e⟩ := zj_el e
        cases e
        exact ⟨h0, hK⟩
  case lookupswitch d ps =>
    obtain ⟨x, r, rfl, e⟩ := zo1_el e
    obtain ⟨hb, e⟩ := zgd_el e
    obtain ⟨h0, e⟩ := zj_el e
    cases e
    exact ⟨hb, h0, hK⟩
  all_goals cases e
def zf5 (kI : Nat → Option Int32) (kL : Nat → Option Int64) (i : Instr) (pc : Nat) (loc : zL) (stk : List zV) (h : zH) : Option zN := match i with
  | .ldc x => (match kI x with
    | some v => some (pc + 2, loc, .inl v :: stk, h)
    | none => none)
  | .ldc_w x => (match kI x with
    | some v => some (pc + 3, loc, .inl v :: stk, h)
    | none => none)
  | .ldc2_w x => (match kL x with
    | some v => some (pc + 3, loc, .inr (.inl v) :: stk, h)
    | none => none)
  | _ => none
theorem zf5_st {kI : Nat → Option Int32} {kL : Nat → Option Int64} {i : Instr} {pc : Nat} {loc : zL} {stk : List zV} {h : zH} {q : zN} (e : zf5 kI kL i pc loc stk h = some q) (K : Nat → zL → List zV → zH → Prop) (hK : K q.1 q.2.1 q.2.2.1 q.2.2.2) : zst5 kI kL i pc loc stk (fun a b c => K a b c h) := by
  cases i
  case ldc x =>
    simp only [zf5] at e
    cases hv : kI x with
    | none => rw [hv] at e; cases e
    | some v => rw [hv] at e; cases e; simp only [zst5, hv]; exact hK
  case ldc_w x =>
    simp only [zf5] at e
    cases hv : kI x with
    | none => rw [hv] at e; cases e
    | some v => rw [hv] at e; cases e; simp only [zst5, hv]; exact hK
  case ldc2_w x =>
    simp only [zf5] at e
    cases hv : kL x with
    | none => rw [hv] at e; cases e
    | some v => rw [hv] at e; cases e; simp only [zst5, hv]; exact hK
  all_goals cases e
