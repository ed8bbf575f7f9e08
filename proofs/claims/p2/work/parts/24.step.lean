/-! the machine as a function: one step -/
abbrev zN : Type := Nat × zL × List zV × zH
def zo1 (stk : List zV) (f : Int32 → List zV → Option zN) : Option zN := match stk with
  | .inl x :: r => f x r
  | _ => none
def zo2 (stk : List zV) (f : Int32 → Int32 → List zV → Option zN) : Option zN := match stk with
  | .inl y :: .inl x :: r => f x y r
  | _ => none
def zoL1 (stk : List zV) (f : Int64 → List zV → Option zN) : Option zN := match stk with
  | .inr (.inl x) :: r => f x r
  | _ => none
def zoL2 (stk : List zV) (f : Int64 → Int64 → List zV → Option zN) : Option zN := match stk with
  | .inr (.inl y) :: .inr (.inl x) :: r => f x y r
  | _ => none
def zoR1 (stk : List zV) (f : Nat → List zV → Option zN) : Option zN := match stk with
  | .inr (.inr k) :: r => f k r
  | _ => none
def zoLI (stk : List zV) (f : Int64 → Int32 → List zV → Option zN) : Option zN := match stk with
  | .inl y :: .inr (.inl x) :: r => f x y r
  | _ => none
def zoRI (stk : List zV) (f : Nat → Int32 → List zV → Option zN) : Option zN := match stk with
  | .inl x :: .inr (.inr k) :: r => f k x r
  | _ => none
def zoRII (stk : List zV) (f : Nat → Int32 → Int32 → List zV → Option zN) : Option zN := match stk with
  | .inl v :: .inl x :: .inr (.inr k) :: r => f k x v r
  | _ => none
def zog (loc : zL) (i : Nat) (f : zV → Option zN) : Option zN := match zget loc i with
  | some v => f v
  | none => none
def zbI : zV → Bool
  | .inl _ => true
  | _ => false
def zbL : zV → Bool
  | .inr (.inl _) => true
  | _ => false
def zbR : zV → Bool
  | .inr (.inr _) => true
  | _ => false
def zk1 (c : ClassFile.Cond) (x : Int32) : Bool := match c with
  | .eq => decide (x = 0)
  | .ne => decide (¬ x = 0)
  | .lt => decide (x < 0)
  | .ge => decide (0 ≤ x)
  | .gt => decide (0 < x)
  | .le => decide (x ≤ 0)
def zk2 (c : ClassFile.Cond) (x y : Int32) : Bool := match c with
  | .eq => decide (x = y)
  | .ne => decide (¬ x = y)
  | .lt => decide (x < y)
  | .ge => decide (y ≤ x)
  | .gt => decide (y < x)
  | .le => decide (x ≤ y)
theorem zk1_iff {c : ClassFile.Cond} {x : Int32} : zk1 c x = true ↔ zcond1 c x := by
  cases c <;> simp [zk1, zcond1]
theorem zk2_iff {c : ClassFile.Cond} {x y : Int32} : zk2 c x y = true ↔ zcond2 c x y := by
  cases c <;> simp [zk2, zcond2]
/-- a jump -/
def zj (pc : Nat) (off : Int) (loc : zL) (r : List zV) (h : zH) : Option zN := if 0 ≤ (pc : Int) + off then some (ztgt pc off, loc, r, h) else none
/-- a guard -/
def zgd (b : Bool) (o : Option zN) : Option zN := if b = true then o else none
/-- the first kind: neither cells nor methods -/
def zf1 (i : Instr) (pc : Nat) (loc : zL) (stk : List zV) (h : zH) : Option zN := match i with
  | .iconst n => some (pc + 1, loc, .inl (Int32.ofInt n) :: stk, h)
  | .bipush n => some (pc + 2, loc, .inl (Int8.ofInt n).toInt32 :: stk, h)
  | .sipush n => some (pc + 3, loc, .inl (Int16.ofInt n).toInt32 :: stk, h)
  | .lconst n => some (pc + 1, loc, .inr (.inl (Int64.ofNat n.val)) :: stk, h)
  | .iload_n k => zog loc k.val (fun v => zgd (zbI v) (some (pc + 1, loc, v :: stk, h)))
  | .iload k => zog loc k (fun v => zgd (zbI v) (some (pc + 2, loc, v :: stk, h)))
  | .lload_n k => zog loc k.val (fun v => zgd (zbL v) (some (pc + 1, loc, v :: stk, h)))
  | .lload k => zog loc k (fun v => zgd (zbL v) (some (pc + 2, loc, v :: stk, h)))
  | .aload_n k => zog loc k.val (fun v => zgd (zbR v) (some (pc + 1, loc, v :: stk, h)))
  | .aload k => zog loc k (fun v => zgd (zbR v) (some (pc + 2, loc, v :: stk, h)))
  | .iadd => zo2 stk (fun x y r => some (pc + 1, loc, .inl (x + y) :: r, h))
  | .isub => zo2 stk (fun x y r => some (pc + 1, loc, .inl (x - y) :: r, h))
  | .imul => zo2 stk (fun x y r => some (pc + 1, loc, .inl (x * y) :: r, h))
  | .iand => zo2 stk (fun x y r => some (pc + 1, loc, .inl (x &&& y) :: r, h))
  | .ior => zo2 stk (fun x y r => some (pc + 1, loc, .inl (x ||| y) :: r, h))
  | .ixor => zo2 stk (fun x y r => some (pc + 1, loc, .inl (x ^^^ y) :: r, h))
  | .idiv => zo2 stk (fun x y r => zgd (decide (¬ y = 0)) (some (pc + 1, loc, .inl (x / y) :: r, h)))
  | .irem => zo2 stk (fun x y r => zgd (decide (¬ y = 0)) (some (pc + 1, loc, .inl (x - x / y * y) :: r, h)))
  | .ishl => zo2 stk (fun x y r => some (pc + 1, loc, .inl (x <<< (y &&& 31)) :: r, h))
  | .ishr => zo2 stk (fun x y r => some (pc + 1, loc, .inl (x >>> (y &&& 31)) :: r, h))
  | .iushr => zo2 stk (fun x y r => some (pc + 1, loc, .inl (zush x y) :: r, h))
  | .ineg => zo1 stk (fun x r => some (pc + 1, loc, .inl (-x) :: r, h))
  | .i2l => zo1 stk (fun x r => some (pc + 1, loc, .inr (.inl x.toInt64) :: r, h))
  | .l2i => zoL1 stk (fun x r => some (pc + 1, loc, .inl x.toInt32 :: r, h))
  | .i2c => zo1 stk (fun x r => some (pc + 1, loc, .inl (x.toUInt32 % 65536).toInt32 :: r, h))
  | .ladd => zoL2 stk (fun x y r => some (pc + 1, loc, .inr (.inl (x + y)) :: r, h))
  | .lsub => zoL2 stk (fun x y r => some (pc + 1, loc, .inr (.inl (x - y)) :: r, h))
  | .lmul => zoL2 stk (fun x y r => some (pc + 1, loc, .inr (.inl (x * y)) :: r, h))
  | .land => zoL2 stk (fun x y r => some (pc + 1, loc, .inr (.inl (x &&& y)) :: r, h))
  | .lor => zoL2 stk (fun x y r => some (pc + 1, loc, .inr (.inl (x ||| y)) :: r, h))
  | .dup => match stk with
    | v :: r => zgd (decide (zcat v = 1)) (some (pc + 1, loc, v :: v :: r, h))
    | _ => none
  | .pop => match stk with
    | v :: r => zgd (decide (zcat v = 1)) (some (pc + 1, loc, r, h))
    | _ => none
  | .dup2 => match stk with
    | v :: w :: r => zgd (decide (zcat v = 1 ∧ zcat w = 1)) (some (pc + 1, loc, v :: w :: v :: w :: r, h))
    | _ => none
  | .goto off => zj pc off loc stk h
  | .ifCond c off => zo1 stk (fun x r => zgd (decide (0 ≤ (pc : Int) + off)) (if zk1 c x = true then some (ztgt pc off, loc, r, h) else some (pc + 3, loc, r, h)))
  | .if_icmp c off => zo2 stk (fun x y r => zgd (decide (0 ≤ (pc : Int) + off)) (if zk2 c x y = true then some (ztgt pc off, loc, r, h) else some (pc + 3, loc, r, h)))
  | .istore_n k => zo1 stk (fun x r => some (pc + 1, zput1 loc k.val (.inl x), r, h))
  | .istore k => zo1 stk (fun x r => some (pc + 2, zput1 loc k (.inl x), r, h))
  | .astore_n k => zoR1 stk (fun x r => some (pc + 1, zput1 loc k.val (.inr (.inr x)), r, h))
  | .astore k => zoR1 stk (fun x r => some (pc + 2, zput1 loc k (.inr (.inr x)), r, h))
  | .lstore_n k => zoL1 stk (fun x r => some (pc + 1, zput2 loc k.val (.inr (.inl x)), r, h))
  | .lstore k => zoL1 stk (fun x r => some (pc + 2, zput2 loc k (.inr (.inl x)), r, h))
  | .iinc k n => match zget loc k with
    | some (.inl x) => some (pc + 3, zput1 loc k (.inl (x + Int32.ofInt n)), stk, h)
    | _ => none
  | _ => none
theorem zo1_el {stk : List zV} {f : Int32 → List zV → Option zN} {q : zN} (h : zo1 stk f = some q) : ∃ x r, stk = .inl x :: r ∧ f x r = some q := by
  match stk, h with
  | .inl x :: r, h => exact ⟨x, r, rfl, h⟩
theorem zo2_el {stk : List zV} {f : Int32 → Int32 → List zV → Option zN} {q : zN} (h : zo2 stk f = some q) : ∃ x y r, stk = .inl y :: .inl x :: r ∧ f x y r = some q := by
  match stk, h with
  | .inl y :: .inl x :: r, h => exact ⟨x, y, r, rfl, h⟩
theorem zoL1_el {stk : List zV} {f : Int64 → List zV → Option zN} {q : zN} (h : zoL1 stk f = some q) : ∃ x r, stk = .inr (.inl x) :: r ∧ f x r = some q := by
  match stk, h with
  | .inr (.inl x) :: r, h => exact ⟨x, r, rfl, h⟩
theorem zoL2_el {stk : List zV} {f : Int64 → Int64 → List zV → Option zN} {q : zN} (h : zoL2 stk f = some q) : ∃ x y r, stk = .inr (.inl y) :: .inr (.inl x) :: r ∧ f x y r = some q := by
  match stk, h with
  | .inr (.inl y) :: .inr (.inl x) :: r, h => exact ⟨x, y, r, rfl, h⟩
theorem zoR1_el {stk : List zV} {f : Nat → List zV → Option zN} {q : zN} (h : zoR1 stk f = some q) : ∃ x r, stk = .inr (.inr x) :: r ∧ f x r = some q := by
  match stk, h with
  | .inr (.inr x) :: r, h => exact ⟨x, r, rfl, h⟩
theorem zoLI_el {stk : List zV} {f : Int64 → Int32 → List zV → Option zN} {q : zN} (h : zoLI stk f = some q) : ∃ x y r, stk = .inl y :: .inr (.inl x) :: r ∧ f x y r = some q := by
  match stk, h with
  | .inl y :: .inr (.inl x) :: r, h => exact ⟨x, y, r, rfl, h⟩
theorem zoRI_el {stk : List zV} {f : Nat → Int32 → List zV → Option zN} {q : zN} (h : zoRI stk f = some q) : ∃ k x r, stk = .inl x :: .inr (.inr k) :: r ∧ f k x r = some q := by
  match stk, h with
  | .inl x :: .inr (.inr k) :: r, h => exact ⟨k, x, r, rfl, h⟩
theorem zoRII_el {stk : List zV} {f : Nat → Int32 → Int32 → List zV → Option zN} {q : zN} (h : zoRII stk f = some q) : ∃ k x v r, stk = .inl v :: .inl x :: .inr (.inr k) :: r ∧ f k x v r = some q := by
  match stk, h with
  | .inl v :: .inl x :: .inr (.inr k) :: r, h => exact ⟨k, x, v, r, rfl, h⟩
theorem zog_el {loc : zL} {i : Nat} {f : zV → Option zN} {q : zN} (h : zog loc i f = some q) : ∃ v, zget loc i = some v ∧ f v = some q := by
  unfold zog at h
  cases hv : zget loc i with
  | none => rw [hv] at h; cases h
  | some v => rw [hv] at h; exact ⟨v, rfl, h⟩
theorem zgd_el {b : Bool} {o : Option zN} {q : zN} (h : zgd b o = some q) : b = true ∧ o = some q := by
  unfold zgd at h
  by_cases hb : b = true
  · rw [if_pos hb] at h; exact ⟨hb, h⟩
  · rw [if_neg hb] at h; cases h
theorem zj_el {pc : Nat} {off : Int} {loc : zL} {r : List zV} {h : zH} {q : zN} (e : zj pc off loc r h = some q) : 0 ≤ (pc : Int) + off ∧ (ztgt pc off, loc, r, h) = q := by
  unfold zj at e
  by_cases hb : 0 ≤ (pc : Int) + off
  · rw [if_pos hb] at e; exact ⟨hb, Option.some.inj e⟩
  · rw [if_neg hb] at e; cases e
theorem zG1_in {loc : zL} {i : Nat} {f : zV → Prop} {v : zV} (h : zget loc i = some v) (hf : f v) : zG1 loc i f := by
  unfold zG1
  rw [h]
  exact hf
theorem zbI_t {v : zV} (h : zbI v = true) : zisI v := by
  match v, h with
  | .inl _, _ => exact trivial
theorem zbL_t {v : zV} (h : zbL v = true) : zisL v := by
  match v, h with
  | .inr (.inl _), _ => exact trivial
theorem zbR_t {v : zV} (h : zbR v = true) : zisR v := by
  match v, h with
  | .inr (.inr _), _ => exact trivial
set_option maxHeartbeats 8000000 in
/-- the function's step is the transformer's -/
theorem zf1_st {i : Instr} {pc : Nat} {loc : zL} {stk : List zV} {h : zH} {q : zN} (e : zf1 i pc loc stk h = some q) (K : Nat → zL → List zV → zH → Prop) (hK : K q.1 q.2.1 q.2.2.1 q.2.2.2) : zst1 i pc loc stk (fun a b c => K a b c h) := by
  cases i
  case iconst n => cases e; exact hK
  case bipush n => cases e; exact hK
  case sipush n => cases e; exact hK
  case lconst n => cases e; exact hK
  case iload_n k => obtain ⟨v, hv, e⟩ := zog_el e; obtain ⟨hb, e⟩ := zgd_el e; cases e; exact zG1_in hv ⟨zbI_t hb, hK⟩
  case iload k => obtain ⟨v, hv, e⟩ := zog_el e; obtain ⟨hb, e⟩ := zgd_el e; cases e; exact zG1_in hv ⟨zbI_t hb, hK⟩
  case lload_n k => obtain ⟨v, hv, e⟩ := zog_el e; obtain ⟨hb, e⟩ := zgd_el e; cases e; exact zG1_in hv ⟨zbL_t hb, hK⟩
  case lload k => obtain ⟨v, hv, e⟩ := zog_el e; obtain ⟨hb, e⟩ := zgd_el e; cases e; exact zG1_in hv ⟨zbL_t hb, hK⟩
  case aload_n k => obtain ⟨v, hv, e⟩ := zog_el e; obtain ⟨hb, e⟩ := zgd_el e; cases e; exact zG1_in hv ⟨zbR_t hb, hK⟩
  case aload k => obtain ⟨v, hv, e⟩ := zog_el e; obtain ⟨hb, e⟩ := zgd_el e; cases e; exact zG1_in hv ⟨zbR_t hb, hK⟩
  case iadd => obtain ⟨x, y, r, rfl, e⟩ := zo2_el e; cases e; exact hK
  case isub => obtain ⟨x, y, r, rfl, e⟩ := zo2_el e; cases e; exact hK
  case imul => obtain ⟨x, y, r, rfl, e⟩ := zo2_el e; cases e; exact hK
  case iand => obtain ⟨x, y, r, rfl, e⟩ := zo2_el e; cases e; exact hK
  case ior => obtain ⟨x, y, r, rfl, e⟩ := zo2_el e; cases e; exact hK
  case ixor => obtain ⟨x, y, r, rfl, e⟩ := zo2_el e; cases e; exact hK
  case idiv => obtain ⟨x, y, r, rfl, e⟩ := zo2_el e; obtain ⟨hb, e⟩ := zgd_el e; cases e; exact ⟨of_decide_eq_true hb, hK⟩
  case irem => obtain ⟨x, y, r, rfl, e⟩ := zo2_el e; obtain ⟨hb, e⟩ := zgd_el e; cases e; exact ⟨of_decide_eq_true hb, hK⟩
  case ishl => obtain ⟨x, y, r, rfl, e⟩ := zo2_el e; cases e; exact hK
  case ishr => obtain ⟨x, y, r, rfl, e⟩ := zo2_el e; cases e; exact hK
  case iushr => obtain ⟨x, y, r, rfl, e⟩ := zo2_el e; cases e; exact hK
  case ineg => obtain ⟨x, r, rfl, e⟩ := zo1_el e; cases e; exact hK
  case i2l => obtain ⟨x, r, rfl, e⟩ := zo1_el e; cases e; exact hK
  case l2i => obtain ⟨x, r, rfl, e⟩ := zoL1_el e; cases e; exact hK
  case i2c => obtain ⟨x, r, rfl, e⟩ := zo1_el e; cases e; exact hK
  case ladd => obtain ⟨x, y, r, rfl, e⟩ := zoL2_el e; cases e; exact hK
  case lsub => obtain ⟨x, y, r, rfl, e⟩ := zoL2_el e; cases e; exact hK
  case lmul => obtain ⟨x, y, r, rfl, e⟩ := zoL2_el e; cases e; exact hK
  case land => obtain ⟨x, y, r, rfl, e⟩ := zoL2_el e; cases e; exact hK
  case lor => obtain ⟨x, y, r, rfl, e⟩ := zoL2_el e; cases e; exact hK
  case dup =>
    match stk, e with
    | v :: r, e => obtain ⟨hb, e⟩ := zgd_el e; cases e; exact ⟨of_decide_eq_true hb, hK⟩
  case pop =>
    match stk, e with
    | v :: r, e => obtain ⟨hb, e⟩ := zgd_el e; cases e; exact ⟨of_decide_eq_true hb, hK⟩
  case dup2 =>
    match stk, e with
    | v :: w :: r, e => obtain ⟨hb, e⟩ := zgd_el e; cases e; exact ⟨(of_decide_eq_true hb).1, (of_decide_eq_true hb).2, hK⟩
  case goto off => obtain ⟨h0, e⟩ := zj_el e; cases e; exact ⟨h0, hK⟩
  case ifCond c off =>
    obtain ⟨x, r, rfl, e⟩ := zo1_el e
    obtain ⟨hb, e⟩ := zgd_el e
    refine ⟨of_decide_eq_true hb, fun hc => ?_, fun hc => ?_⟩
    · rw [if_pos (zk1_iff.mpr hc)] at e; cases e; exact hK
    · rw [if_neg (fun z => hc (zk1_iff.mp z))] at e; cases e; exact hK
  case if_icmp c off =>
    obtain ⟨x, y, r, rfl, e⟩ := zo2_el e
    obtain ⟨hb, e⟩ := zgd_el e
    refine ⟨of_decide_eq_true hb, fun hc => ?_, fun hc => ?_⟩
    · rw [if_pos (zk2_iff.mpr hc)] at e; cases e; exact hK
    · rw [if_neg (fun z => hc (zk2_iff.mp z))] at e; cases e; exact hK
  case istore_n k => obtain ⟨x, r, rfl, e⟩ := zo1_el e; cases e; exact hK
  case istore k => obtain ⟨x, r, rfl, e⟩ := zo1_el e; cases e; exact hK
  case astore_n k => obtain ⟨x, r, rfl, e⟩ := zoR1_el e; cases e; exact hK
  case astore k => obtain ⟨x, r, rfl, e⟩ := zoR1_el e; cases e; exact hK
  case lstore_n k => obtain ⟨x, r, rfl, e⟩ := zoL1_el e; cases e; exact hK
  case lstore k => obtain ⟨x, r, rfl, e⟩ := zoL1_el e; cases e; exact hK
  case iinc k n =>
    have e2 : (match zget loc k with | some (.inl x) => (some (pc + 3, zput1 loc k (.inl (x + Int32.ofInt n)), stk, h) : Option zN) | _ => none) = some q := e
    show (match zget loc k with | some (.inl x) => K (pc + 3) (zput1 loc k (.inl (x + Int32.ofInt n))) stk h | _ => False)
    cases hg : zget loc k with
    | none => rw [hg] at e2; cases e2
    | some v =>
      rw [hg] at e2
      rcases v with x | v
      · cases e2; exact hK
      · cases e2
  all_goals cases e
/-- what the first kind leaves alone -/
theorem zf1_h {i : Instr} {pc : Nat} {loc : zL} {stk : List zV} {h : zH} {q : zN} (e : zf1 i pc loc stk h = some q) : ∀ d lo hi (o : Array Int), i ≠ .tableswitch d lo hi o := by
  rintro d lo hi o rfl
  cases e
