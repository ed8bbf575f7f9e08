/-! A MACHINE OF ITS OWN: values, a state of numbers in cells that never move, a step as a predicate transformer -/
/-- a value: an int, a long, a reference (a cell's number) -/
abbrev zV : Type := Int32 ⊕ (Int64 ⊕ Nat)
/-- the state: ints by cell and place (fields and rows), a long by cell -/
abbrev zH : Type := (Nat → Nat → Int32) × (Nat → Int64)
abbrev zL : Type := List (Nat × zV)
def zcat : zV → Nat
  | .inr (.inl _) => 2
  | _ => 1
def zv (ad : Nat → Nat) : zV → Value
  | .inl x => .int x
  | .inr (.inl y) => .long y
  | .inr (.inr k) => .ref (ad k)
theorem zv_cat (ad : Nat → Nat) (v : zV) : (zv ad v).category = zcat v := by
  rcases v with x | x | k <;> rfl
def zc (ad : Nat → Nat) (loc : zL) : List (Nat × Value) := loc.map (fun q => (q.1, zv ad q.2))
def zget (loc : zL) (i : Nat) : Option zV := (loc.find? (fun q => q.1 == i)).map (·.2)
def zput1 (loc : zL) (i : Nat) (v : zV) : zL := (i, v) :: loc.filter (fun q => !(q.1 == i) && !(q.1 + 1 == i && zcat q.2 == 2))
def zput2 (loc : zL) (i : Nat) (v : zV) : zL := (i, v) :: loc.filter (fun q => !(q.1 == i) && (!(q.1 == i + 1) && !(q.1 + 1 == i && zcat q.2 == 2)))
theorem zput1_c (ad : Nat → Nat) (loc : zL) (i : Nat) (v : zV) : (i, zv ad v) :: (zc ad loc).filter (fun q => !(q.1 == i) && !(q.1 + 1 == i && q.2.category == 2)) = zc ad (zput1 loc i v) := by
  unfold zput1 zc
  rw [List.map_cons, List.filter_map]
  refine congrArg (fun l => (i, zv ad v) :: List.map _ l) (List.filter_congr (fun q _ => ?_))
  show (!(q.1 == i) && !(q.1 + 1 == i && (zv ad q.2).category == 2)) = _
  rw [zv_cat]
theorem zput2_c (ad : Nat → Nat) (loc : zL) (i : Nat) (v : zV) : (i, zv ad v) :: (zc ad loc).filter (fun q => !(q.1 == i) && (!(q.1 == i + 1) && !(q.1 + 1 == i && q.2.category == 2))) = zc ad (zput2 loc i v) := by
  unfold zput2 zc
  rw [List.map_cons, List.filter_map]
  refine congrArg (fun l => (i, zv ad v) :: List.map _ l) (List.filter_congr (fun q _ => ?_))
  show (!(q.1 == i) && (!(q.1 == i + 1) && !(q.1 + 1 == i && (zv ad q.2).category == 2))) = _
  rw [zv_cat]
theorem zget_c {ad : Nat → Nat} {loc : zL} {i : Nat} {v : zV} {ls : Array Slot} {nL : Nat} (hl : lv_has ls nL (zc ad loc)) (h : zget loc i = some v) : ls[i]? = some (.val (zv ad v)) := by
  unfold zget at h
  cases hf : loc.find? (fun q => q.1 == i) with
  | none => rw [hf] at h; cases h
  | some q =>
    rw [hf] at h
    have hv : q.2 = v := Option.some.inj h
    have hi : q.1 = i := by have := List.find?_some hf; simpa using this
    have hm : q ∈ loc := List.mem_of_find?_eq_some hf
    have := hl.2.2 (q.1, zv ad q.2) (List.mem_map.mpr ⟨q, hm, rfl⟩)
    rw [hi, hv] at this
    exact this
theorem zget_pos {ad : Nat → Nat} {loc : zL} {i : Nat} {v : zV} (h : zget loc i = some v) : ∃ k : Nat, (zc ad loc)[k]? = some (i, zv ad v) := by
  unfold zget at h
  cases hf : loc.find? (fun q => q.1 == i) with
  | none => rw [hf] at h; cases h
  | some q =>
    rw [hf] at h
    have hv : q.2 = v := Option.some.inj h
    have hi : q.1 = i := by have := List.find?_some hf; simpa using this
    obtain ⟨k, hk⟩ := List.mem_iff_getElem?.mp (List.mem_of_find?_eq_some hf)
    refine ⟨k, ?_⟩
    unfold zc
    rw [List.getElem?_map, hk, ← hi, ← hv]
    rfl
/-- an int's place gets a value -/
def zs (h : zH) (c i : Nat) (v : Int32) : zH := (fun a j => if a = c then (if j = i then v else h.1 a j) else h.1 a j, h.2)
def zsl (h : zH) (c : Nat) (v : Int64) : zH := (h.1, fun a => if a = c then v else h.2 a)
section ZTAB
variable (tab : Nat → (Nat × List Nat) ⊕ (Nat × Nat × List Nat)) (cI cZ cQ cG : ClassId) (ad : Nat → Nat)
/-- a field's value: 0 an int, 1 the long, k + 2 the cell k -/
def zfv (h : zH) (id fi : Nat) : Nat → Value
  | 0 => .int (h.1 id fi)
  | 1 => .long (h.2 id)
  | k + 2 => .ref (ad k)
def zfs (h : zH) (id : Nat) (fk : List Nat) : List Value := (List.range fk.length).map (fun fi => zfv ad h id fi (fk.getD fi 0))
def zce (h : zH) (id : Nat) : va_E := match tab id with
  | .inl (ci, fk) => .inr (ci, zfs ad h id fk)
  | .inr (0, n, _) => .inl (cI, n, .inl (h.1 id))
  | .inr (1, n, _) => .inl (cZ, n, .inl (h.1 id))
  | .inr (2, n, r) => .inl (cQ, n, .inr (.inr (.inr (.inr (fun i => (r[i]?).map ad)))))
  | .inr (_, n, r) => .inl (cG, n, .inr (.inr (.inr (.inr (fun i => (r[i]?).map ad)))))
def zW (N : Nat) (h : zH) : va_W := (List.range N).map (fun id => (ad id, zce tab cI cZ cQ cG ad h id))
end ZTAB
section ZWL
variable {tab : Nat → (Nat × List Nat) ⊕ (Nat × Nat × List Nat)} {cI cZ cQ cG : ClassId} {ad : Nat → Nat} {N : Nat}
theorem zW_at {h : zH} {id : Nat} (hi : id < N) : (zW tab cI cZ cQ cG ad N h)[id]? = some (ad id, zce tab cI cZ cQ cG ad h id) := by
  unfold zW
  rw [List.getElem?_map, List.getElem?_range hi]
  rfl
theorem zce_congr {h h' : zH} {id : Nat} (e1 : h.1 id = h'.1 id) (e2 : h.2 id = h'.2 id) : zce tab cI cZ cQ cG ad h id = zce tab cI cZ cQ cG ad h' id := by
  have e3 : ∀ fi k, zfv ad h id fi k = zfv ad h' id fi k := fun fi k => by
    match k with
    | 0 => show Value.int _ = Value.int _; rw [e1]
    | 1 => show Value.long _ = Value.long _; rw [e2]
    | k + 2 => rfl
  unfold zce zfs
  simp only [e1, e3]
theorem zW_set {h h' : zH} {id : Nat} {x : va_E} (hi : id < N) (hx : zce tab cI cZ cQ cG ad h' id = x) (ho : ∀ a, a ≠ id → h'.1 a = h.1 a ∧ h'.2 a = h.2 a) : (zW tab cI cZ cQ cG ad N h).set id (ad id, x) = zW tab cI cZ cQ cG ad N h' := by
  apply List.ext_getElem?
  intro k
  rw [List.getElem?_set]
  by_cases hk : id = k
  · subst hk
    rw [if_pos rfl, zW_at hi, hx]
    simp [zW, hi]
  · rw [if_neg hk]
    by_cases hN : k < N
    · obtain ⟨e1, e2⟩ := ho k (fun e => hk e.symm)
      rw [zW_at hN, zW_at hN, zce_congr e1 e2]
    · unfold zW
      rw [List.getElem?_map, List.getElem?_map, List.getElem?_eq_none (by simp; omega)]
      rfl
theorem zs_other {h : zH} {c i a : Nat} {v : Int32} (ha : a ≠ c) : (zs h c i v).1 a = h.1 a ∧ (zs h c i v).2 a = h.2 a := by
  refine ⟨?_, rfl⟩
  funext j
  show (if a = c then _ else _) = _
  rw [if_neg ha]
theorem zs_row {h : zH} {c i : Nat} {v : Int32} : (zs h c i v).1 c = upd (h.1 c) i v := by
  funext j
  show (if c = c then (if j = i then v else h.1 c j) else _) = (if j = i then v else h.1 c j)
  rw [if_pos rfl]
theorem zfs_at {h : zH} {id fi k : Nat} {fk : List Nat} (hk : fk[fi]? = some k) : (zfs ad h id fk)[fi]? = some (zfv ad h id fi k) := by
  have hlt : fi < fk.length := (List.getElem?_eq_some_iff.mp hk).1
  unfold zfs
  rw [List.getElem?_map, List.getElem?_range hlt]
  show some (zfv ad h id fi (fk.getD fi 0)) = _
  rw [List.getD_eq_getElem?_getD, hk]
  rfl
theorem zfs_set {h : zH} {id fi : Nat} {v : Int32} {fk : List Nat} (hk : fk[fi]? = some 0) : (zfs ad h id fk).set fi (.int v) = zfs ad (zs h id fi v) id fk := by
  have hlt : fi < fk.length := (List.getElem?_eq_some_iff.mp hk).1
  apply List.ext_getElem?
  intro j
  rw [List.getElem?_set]
  by_cases hj : fi = j
  · subst hj
    rw [if_pos rfl, zfs_at hk]
    have : fi < (zfs ad h id fk).length := by unfold zfs; simp; exact hlt
    rw [if_pos this]
    show some (Value.int v) = some (Value.int (if id = id then (if fi = fi then v else _) else _))
    rw [if_pos rfl, if_pos rfl]
  · rw [if_neg hj]
    cases hf : fk[j]? with
    | none =>
      have hn : fk.length ≤ j := List.getElem?_eq_none_iff.mp hf
      unfold zfs
      rw [List.getElem?_eq_none (by simp; exact hn), List.getElem?_eq_none (by simp; exact hn)]
    | some k =>
      rw [zfs_at hf, zfs_at hf]
      match k with
      | 0 =>
        show some (Value.int _) = some (Value.int (if id = id then (if j = fi then v else _) else _))
        rw [if_pos rfl, if_neg (fun e => hj e.symm)]
      | 1 => rfl
      | k + 2 => rfl
end ZWL
/-- a branch's word -/
def zif (c : Prop) (a b : Prop) : Prop := (c → a) ∧ (¬ c → b)
def zI1 (stk : List zV) (f : Int32 → List zV → Prop) : Prop := match stk with
  | .inl x :: r => f x r
  | _ => False
def zI2 (stk : List zV) (f : Int32 → Int32 → List zV → Prop) : Prop := match stk with
  | .inl y :: .inl x :: r => f x y r
  | _ => False
def zL1 (stk : List zV) (f : Int64 → List zV → Prop) : Prop := match stk with
  | .inr (.inl x) :: r => f x r
  | _ => False
def zL2 (stk : List zV) (f : Int64 → Int64 → List zV → Prop) : Prop := match stk with
  | .inr (.inl y) :: .inr (.inl x) :: r => f x y r
  | _ => False
def zR1 (stk : List zV) (f : Nat → List zV → Prop) : Prop := match stk with
  | .inr (.inr k) :: r => f k r
  | _ => False
def zG1 (loc : zL) (i : Nat) (f : zV → Prop) : Prop := match zget loc i with
  | some v => f v
  | none => False
def zisI : zV → Prop
  | .inl _ => True
  | _ => False
def zisL : zV → Prop
  | .inr (.inl _) => True
  | _ => False
def zisR : zV → Prop
  | .inr (.inr _) => True
  | _ => False
def ztgt (pc : Nat) (off : Int) : Nat := ((pc : Int) + off).toNat
def zcond1 (c : ClassFile.Cond) (x : Int32) : Prop := match c with
  | .eq => x = 0
  | .ne => ¬ x = 0
  | .lt => x < 0
  | .ge => 0 ≤ x
  | .gt => 0 < x
  | .le => x ≤ 0
def zcond2 (c : ClassFile.Cond) (x y : Int32) : Prop := match c with
  | .eq => x = y
  | .ne => ¬ x = y
  | .lt => x < y
  | .ge => y ≤ x
  | .gt => y < x
  | .le => x ≤ y
def zush (x y : Int32) : Int32 := (x.toUInt32 >>> (y.toUInt32 &&& Int32.toUInt32 31)).toInt32
/-- what a field's place holds, as a value -/
def zfa (h : zH) (k fi : Nat) : Nat → zV
  | 0 => .inl (h.1 k fi)
  | 1 => .inr (.inl (h.2 k))
  | j + 2 => .inr (.inr j)
theorem zfa_c (ad : Nat → Nat) (h : zH) (k fi t : Nat) : zv ad (zfa h k fi t) = zfv ad h k fi t := by
  match t with
  | 0 => rfl
  | 1 => rfl
  | j + 2 => rfl
/-- the instructions that touch neither cells nor other methods -/
def zst1 (i : Instr) (pc : Nat) (loc : zL) (stk : List zV) (K : Nat → zL → List zV → Prop) : Prop := match i with
  | .iconst n => K (pc + 1) loc (.inl (Int32.ofInt n) :: stk)
  | .bipush n => K (pc + 2) loc (.inl (Int8.ofInt n).toInt32 :: stk)
  | .sipush n => K (pc + 3) loc (.inl (Int16.ofInt n).toInt32 :: stk)
  | .lconst n => K (pc + 1) loc (.inr (.inl (Int64.ofNat n.val)) :: stk)
  | .iload_n k => zG1 loc k.val (fun v => zisI v ∧ K (pc + 1) loc (v :: stk))
  | .iload k => zG1 loc k (fun v => zisI v ∧ K (pc + 2) loc (v :: stk))
  | .lload_n k => zG1 loc k.val (fun v => zisL v ∧ K (pc + 1) loc (v :: stk))
  | .lload k => zG1 loc k (fun v => zisL v ∧ K (pc + 2) loc (v :: stk))
  | .aload_n k => zG1 loc k.val (fun v => zisR v ∧ K (pc + 1) loc (v :: stk))
  | .aload k => zG1 loc k (fun v => zisR v ∧ K (pc + 2) loc (v :: stk))
  | .iadd => zI2 stk (fun x y r => K (pc + 1) loc (.inl (x + y) :: r))
  | .isub => zI2 stk (fun x y r => K (pc + 1) loc (.inl (x - y) :: r))
  | .imul => zI2 stk (fun x y r => K (pc + 1) loc (.inl (x * y) :: r))
  | .iand => zI2 stk (fun x y r => K (pc + 1) loc (.inl (x &&& y) :: r))
  | .ior => zI2 stk (fun x y r => K (pc + 1) loc (.inl (x ||| y) :: r))
  | .ixor => zI2 stk (fun x y r => K (pc + 1) loc (.inl (x ^^^ y) :: r))
  | .idiv => zI2 stk (fun x y r => ¬ y = 0 ∧ K (pc + 1) loc (.inl (x / y) :: r))
  | .irem => zI2 stk (fun x y r => ¬ y = 0 ∧ K (pc + 1) loc (.inl (x - x / y * y) :: r))
  | .ishl => zI2 stk (fun x y r => K (pc + 1) loc (.inl (x <<< (y &&& 31)) :: r))
  | .ishr => zI2 stk (fun x y r => K (pc + 1) loc (.inl (x >>> (y &&& 31)) :: r))
  | .iushr => zI2 stk (fun x y r => K (pc + 1) loc (.inl (zush x y) :: r))
  | .ineg => zI1 stk (fun x r => K (pc + 1) loc (.inl (-x) :: r))
  | .i2l => zI1 stk (fun x r => K (pc + 1) loc (.inr (.inl x.toInt64) :: r))
  | .l2i => zL1 stk (fun x r => K (pc + 1) loc (.inl x.toInt32 :: r))
  | .i2c => zI1 stk (fun x r => K (pc + 1) loc (.inl (x.toUInt32 % 65536).toInt32 :: r))
  | .ladd => zL2 stk (fun x y r => K (pc + 1) loc (.inr (.inl (x + y)) :: r))
  | .lsub => zL2 stk (fun x y r => K (pc + 1) loc (.inr (.inl (x - y)) :: r))
  | .lmul => zL2 stk (fun x y r => K (pc + 1) loc (.inr (.inl (x * y)) :: r))
  | .land => zL2 stk (fun x y r => K (pc + 1) loc (.inr (.inl (x &&& y)) :: r))
  | .lor => zL2 stk (fun x y r => K (pc + 1) loc (.inr (.inl (x ||| y)) :: r))
  | .dup => match stk with
    | v :: r => zcat v = 1 ∧ K (pc + 1) loc (v :: v :: r)
    | _ => False
  | .pop => match stk with
    | v :: r => zcat v = 1 ∧ K (pc + 1) loc r
    | _ => False
  | .dup2 => match stk with
    | v :: w :: r => zcat v = 1 ∧ zcat w = 1 ∧ K (pc + 1) loc (v :: w :: v :: w :: r)
    | _ => False
  | .goto off => 0 ≤ (pc : Int) + off ∧ K (ztgt pc off) loc stk
  | .ifCond c off => zI1 stk (fun x r => 0 ≤ (pc : Int) + off ∧ zif (zcond1 c x) (K (ztgt pc off) loc r) (K (pc + 3) loc r))
  | .if_icmp c off => zI2 stk (fun x y r => 0 ≤ (pc : Int) + off ∧ zif (zcond2 c x y) (K (ztgt pc off) loc r) (K (pc + 3) loc r))
  | .tableswitch dflt lo hi offs => zI1 stk (fun x r => ∀ off : Int, off = (if x.toInt < lo ∨ hi < x.toInt then dflt else (offs[(x.toInt - lo).toNat]?).getD dflt) → 0 ≤ (pc : Int) + off ∧ K (ztgt pc off) loc r)
  | .istore_n k => zI1 stk (fun x r => K (pc + 1) (zput1 loc k.val (.inl x)) r)
  | .istore k => zI1 stk (fun x r => K (pc + 2) (zput1 loc k (.inl x)) r)
  | .astore_n k => zR1 stk (fun x r => K (pc + 1) (zput1 loc k.val (.inr (.inr x))) r)
  | .astore k => zR1 stk (fun x r => K (pc + 2) (zput1 loc k (.inr (.inr x))) r)
  | .lstore_n k => zL1 stk (fun x r => K (pc + 1) (zput2 loc k.val (.inr (.inl x))) r)
  | .lstore k => zL1 stk (fun x r => K (pc + 2) (zput2 loc k (.inr (.inl x))) r)
  | .iinc k n => match zget loc k with
    | some (.inl x) => K (pc + 3) (zput1 loc k (.inl (x + Int32.ofInt n))) stk
    | _ => False
  | _ => False
/-- an instruction's length; its local within the frame -/
def zlen : Instr → Nat
  | .bipush _ => 2
  | .sipush _ => 3
  | .iload _ => 2
  | .lload _ => 2
  | .aload _ => 2
  | .istore _ => 2
  | .lstore _ => 2
  | .astore _ => 2
  | .iinc _ _ => 3
  | .goto _ => 3
  | .ifCond _ _ => 3
  | .if_icmp _ _ => 3
  | .getfield _ => 3
  | .putfield _ => 3
  | .getstatic _ => 3
  | .invokevirtual _ => 3
  | .invokespecial _ => 3
  | .invokestatic _ => 3
  | .ldc _ => 2
  | .ldc_w _ => 3
  | .ldc2_w _ => 3
  | _ => 1
def zok (nL : Nat) : Instr → Bool
  | .istore_n k => decide (k.val < nL)
  | .astore_n k => decide (k.val < nL)
  | .lstore_n k => decide (k.val + 1 < nL)
  | .istore k => decide (k < nL)
  | .astore k => decide (k < nL)
  | .lstore k => decide (k + 1 < nL)
  | .iinc k _ => decide (k < nL)
  | _ => true
theorem zI1_el {stk : List zV} {f : Int32 → List zV → Prop} (h : zI1 stk f) : ∃ x r, stk = .inl x :: r ∧ f x r := by
  match stk, h with
  | .inl x :: r, h => exact ⟨x, r, rfl, h⟩
theorem zI2_el {stk : List zV} {f : Int32 → Int32 → List zV → Prop} (h : zI2 stk f) : ∃ x y r, stk = .inl y :: .inl x :: r ∧ f x y r := by
  match stk, h with
  | .inl y :: .inl x :: r, h => exact ⟨x, y, r, rfl, h⟩
theorem zL1_el {stk : List zV} {f : Int64 → List zV → Prop} (h : zL1 stk f) : ∃ x r, stk = .inr (.inl x) :: r ∧ f x r := by
  match stk, h with
  | .inr (.inl x) :: r, h => exact ⟨x, r, rfl, h⟩
theorem zL2_el {stk : List zV} {f : Int64 → Int64 → List zV → Prop} (h : zL2 stk f) : ∃ x y r, stk = .inr (.inl y) :: .inr (.inl x) :: r ∧ f x y r := by
  match stk, h with
  | .inr (.inl y) :: .inr (.inl x) :: r, h => exact ⟨x, y, r, rfl, h⟩
theorem zR1_el {stk : List zV} {f : Nat → List zV → Prop} (h : zR1 stk f) : ∃ x r, stk = .inr (.inr x) :: r ∧ f x r := by
  match stk, h with
  | .inr (.inr x) :: r, h => exact ⟨x, r, rfl, h⟩
theorem zG1_el {loc : zL} {i : Nat} {f : zV → Prop} (h : zG1 loc i f) : ∃ v, zget loc i = some v ∧ f v := by
  unfold zG1 at h
  cases hv : zget loc i with
  | none => rw [hv] at h; exact h.elim
  | some v => rw [hv] at h; exact ⟨v, rfl, h⟩
theorem zisI_el {v : zV} (h : zisI v) : ∃ x, v = .inl x := by
  match v, h with
  | .inl x, _ => exact ⟨x, rfl⟩
theorem zisL_el {v : zV} (h : zisL v) : ∃ x, v = .inr (.inl x) := by
  match v, h with
  | .inr (.inl x), _ => exact ⟨x, rfl⟩
theorem zisR_el {v : zV} (h : zisR v) : ∃ x, v = .inr (.inr x) := by
  match v, h with
  | .inr (.inr x), _ => exact ⟨x, rfl⟩
section ZS1
variable {p : Program} {l : Launch} {e : Env} {R : Room} {s : State} {m : MethodId} {args : Array Value} {below : List Frame} {meth : Method} {c : Code} {H : Heap} {locs : List Loc} {cells slots : Nat} {Q : State → Prop} {cc : ByteArray} {ad : Nat → Nat} {nL : Nat}
theorem ztgt_eq {pc : Nat} {off : Int} (h : 0 ≤ (pc : Int) + off) : (pc : Int) + off = (ztgt pc off : Int) := by
  unfold ztgt
  omega
set_option maxHeartbeats 8000000 in
/-- soundness, an instruction that touches neither cells nor methods -/
theorem zst1_sound (hx : p.tables.exec = Jvm.exec) (hb : c.code = cc) {i : Instr} {pc : Nat} {loc : zL} {stk : List zV} {ls : Array Slot} {K : Nat → zL → List zV → Prop} (hdg : decode cc pc = .ok (i, zlen i)) (hok : zok nL i = true) (hts : ∀ d lo hi (o : Array Int), i ≠ .tableswitch d lo hi o) (hl : lv_has ls nL (zc ad loc)) (hw : zst1 i pc loc stk K)
    (kk : ∀ (pc' : Nat) (loc' : zL) (stk' : List zV) (ls' : Array Slot), lv_has ls' nL (zc ad loc') → K pc' loc' stk' → W p l e R s m args below meth c H locs cells slots Q (F0 m pc' ls' (stk'.map (zv ad)))) : W p l e R s m args below meth c H locs cells slots Q (F0 m pc ls (stk.map (zv ad))) := by
  cases i
  case iconst n =>
    have k9 := kk _ _ _ _ hl hw
    exact lv_iconst hx hb hdg rfl k9
  case bipush n =>
    have k9 := kk _ _ _ _ hl hw
    exact lv_bipush hx hb hdg rfl k9
  case sipush n =>
    have k9 := kk _ _ _ _ hl hw
    exact lv_sipush hx hb hdg rfl k9
  case lconst n =>
    have k9 := kk _ _ _ _ hl hw
    exact lv_lconst hx hb hdg rfl k9
  case iload_n k =>
    obtain ⟨v, hv, hi, hw⟩ := zG1_el hw
    obtain ⟨x, rfl⟩ := zisI_el hi
    have k9 := kk _ _ _ _ hl hw
    exact lv_iload_n hx hb hdg rfl (zget_c hl hv) k9
  case iload k =>
    obtain ⟨v, hv, hi, hw⟩ := zG1_el hw
    obtain ⟨x, rfl⟩ := zisI_el hi
    have k9 := kk _ _ _ _ hl hw
    exact lv_iload hx hb hdg (zget_c hl hv) k9
  case lload_n k =>
    obtain ⟨v, hv, hi, hw⟩ := zG1_el hw
    obtain ⟨x, rfl⟩ := zisL_el hi
    have k9 := kk _ _ _ _ hl hw
    exact lv_lload_n hx hb hdg rfl (zget_c hl hv) k9
  case lload k =>
    obtain ⟨v, hv, hi, hw⟩ := zG1_el hw
    obtain ⟨x, rfl⟩ := zisL_el hi
    have k9 := kk _ _ _ _ hl hw
    exact lv_lload hx hb hdg (zget_c hl hv) k9
  case aload_n k =>
    obtain ⟨v, hv, hi, hw⟩ := zG1_el hw
    obtain ⟨x, rfl⟩ := zisR_el hi
    have k9 := kk _ _ _ _ hl hw
    exact lv_aload_n hx hb hdg rfl (zget_c hl hv) k9
  case aload k =>
    obtain ⟨v, hv, hi, hw⟩ := zG1_el hw
    obtain ⟨x, rfl⟩ := zisR_el hi
    have k9 := kk _ _ _ _ hl hw
    exact lv_aload hx hb hdg (zget_c hl hv) k9
  case iadd =>
    obtain ⟨x, y, r, rfl, hw⟩ := zI2_el hw
    have k9 := kk _ _ _ _ hl hw
    exact lv_iadd hx hb hdg k9
  case isub =>
    obtain ⟨x, y, r, rfl, hw⟩ := zI2_el hw
    have k9 := kk _ _ _ _ hl hw
    exact lv_isub hx hb hdg k9
  case imul =>
    obtain ⟨x, y, r, rfl, hw⟩ := zI2_el hw
    have k9 := kk _ _ _ _ hl hw
    exact lv_imul hx hb hdg k9
  case iand =>
    obtain ⟨x, y, r, rfl, hw⟩ := zI2_el hw
    have k9 := kk _ _ _ _ hl hw
    exact lv_iand hx hb hdg k9
  case ior =>
    obtain ⟨x, y, r, rfl, hw⟩ := zI2_el hw
    have k9 := kk _ _ _ _ hl hw
    exact lv_ior hx hb hdg k9
  case ixor =>
    obtain ⟨x, y, r, rfl, hw⟩ := zI2_el hw
    have k9 := kk _ _ _ _ hl hw
    exact lv_ixor hx hb hdg k9
  case ishl =>
    obtain ⟨x, y, r, rfl, hw⟩ := zI2_el hw
    have k9 := kk _ _ _ _ hl hw
    exact lv_ishl hx hb hdg k9
  case ishr =>
    obtain ⟨x, y, r, rfl, hw⟩ := zI2_el hw
    have k9 := kk _ _ _ _ hl hw
    exact lv_ishr hx hb hdg k9
  case iushr =>
    obtain ⟨x, y, r, rfl, hw⟩ := zI2_el hw
    have k9 := kk _ _ _ _ hl hw
    exact lv_iushr hx hb hdg rfl k9
  case idiv =>
    obtain ⟨x, y, r, rfl, hy, hw⟩ := zI2_el hw
    have k9 := kk _ _ _ _ hl hw
    exact lv_idiv hx hb hdg hy k9
  case irem =>
    obtain ⟨x, y, r, rfl, hy, hw⟩ := zI2_el hw
    have k9 := kk _ _ _ _ hl hw
    exact lv_irem hx hb hdg hy k9
  case ineg =>
    obtain ⟨x, r, rfl, hw⟩ := zI1_el hw
    have k9 := kk _ _ _ _ hl hw
    exact lv_ineg hx hb hdg k9
  case i2l =>
    obtain ⟨x, r, rfl, hw⟩ := zI1_el hw
    have k9 := kk _ _ _ _ hl hw
    exact lv_i2l hx hb hdg rfl k9
  case i2c =>
    obtain ⟨x, r, rfl, hw⟩ := zI1_el hw
    have k9 := kk _ _ _ _ hl hw
    exact lv_i2c hx hb hdg rfl k9
  case l2i =>
    obtain ⟨x, r, rfl, hw⟩ := zL1_el hw
    have k9 := kk _ _ _ _ hl hw
    exact lv_l2i hx hb hdg rfl k9
  case ladd =>
    obtain ⟨x, y, r, rfl, hw⟩ := zL2_el hw
    have k9 := kk _ _ _ _ hl hw
    exact lv_ladd hx hb hdg k9
  case lsub =>
    obtain ⟨x, y, r, rfl, hw⟩ := zL2_el hw
    have k9 := kk _ _ _ _ hl hw
    exact lv_lsub hx hb hdg k9
  case lmul =>
    obtain ⟨x, y, r, rfl, hw⟩ := zL2_el hw
    have k9 := kk _ _ _ _ hl hw
    exact lv_lmul hx hb hdg k9
  case land =>
    obtain ⟨x, y, r, rfl, hw⟩ := zL2_el hw
    have k9 := kk _ _ _ _ hl hw
    exact lv_land hx hb hdg k9
  case lor =>
    obtain ⟨x, y, r, rfl, hw⟩ := zL2_el hw
    have k9 := kk _ _ _ _ hl hw
    exact lv_lor hx hb hdg k9
  case dup =>
    match stk, hw with
    | v :: r, hw =>
      have k9 := kk _ _ _ _ hl hw.2
      exact lv_dup hx hb hdg ((zv_cat ad v).trans hw.1) k9
  case pop =>
    match stk, hw with
    | v :: r, hw =>
      have k9 := kk _ _ _ _ hl hw.2
      exact lv_pop hx hb hdg ((zv_cat ad v).trans hw.1) k9
  case dup2 =>
    match stk, hw with
    | v :: w :: r, hw =>
      have k9 := kk _ _ _ _ hl hw.2.2
      exact lv_dup2_11 hx hb hdg ((zv_cat ad v).trans hw.1) ((zv_cat ad w).trans hw.2.1) k9
  case goto off =>
    have k9 := kk _ _ _ _ hl hw.2
    exact lv_goto hx hb hdg (ztgt_eq hw.1) k9
  case ifCond cd off =>
    obtain ⟨x, r, rfl, ho, hw⟩ := zI1_el hw
    cases cd
    · exact lv_if_eq hx hb hdg (ztgt_eq ho) (fun q => kk _ _ _ _ hl (hw.1 q)) (fun q => kk _ _ _ _ hl (hw.2 q))
    · exact lv_if_ne hx hb hdg (ztgt_eq ho) (fun q => kk _ _ _ _ hl (hw.1 q)) (fun q => kk _ _ _ _ hl (hw.2 (fun z => z q)))
    · exact lv_if_lt hx hb hdg (ztgt_eq ho) (fun q => kk _ _ _ _ hl (hw.1 q)) (fun q => kk _ _ _ _ hl (hw.2 q))
    · exact lv_if_ge hx hb hdg (ztgt_eq ho) (fun q => kk _ _ _ _ hl (hw.1 q)) (fun q => kk _ _ _ _ hl (hw.2 q))
    · exact lv_if_gt hx hb hdg (ztgt_eq ho) (fun q => kk _ _ _ _ hl (hw.1 q)) (fun q => kk _ _ _ _ hl (hw.2 q))
    · exact lv_if_le hx hb hdg (ztgt_eq ho) (fun q => kk _ _ _ _ hl (hw.1 q)) (fun q => kk _ _ _ _ hl (hw.2 q))
  case if_icmp cd off =>
    obtain ⟨x, y, r, rfl, ho, hw⟩ := zI2_el hw
    cases cd
    · exact lv_icmp_eq hx hb hdg (ztgt_eq ho) (fun q => kk _ _ _ _ hl (hw.1 q)) (fun q => kk _ _ _ _ hl (hw.2 q))
    · exact lv_icmp_ne hx hb hdg (ztgt_eq ho) (fun q => kk _ _ _ _ hl (hw.1 q)) (fun q => kk _ _ _ _ hl (hw.2 (fun z => z q)))
    · exact lv_icmp_lt hx hb hdg (ztgt_eq ho) (fun q => kk _ _ _ _ hl (hw.1 q)) (fun q => kk _ _ _ _ hl (hw.2 q))
    · exact lv_icmp_ge hx hb hdg (ztgt_eq ho) (fun q => kk _ _ _ _ hl (hw.1 q)) (fun q => kk _ _ _ _ hl (hw.2 q))
    · exact lv_icmp_gt hx hb hdg (ztgt_eq ho) (fun q => kk _ _ _ _ hl (hw.1 q)) (fun q => kk _ _ _ _ hl (hw.2 q))
    · exact lv_icmp_le hx hb hdg (ztgt_eq ho) (fun q => kk _ _ _ _ hl (hw.1 q)) (fun q => kk _ _ _ _ hl (hw.2 q))
  case tableswitch d lo hi o =>
    exact absurd rfl (hts d lo hi o)
  case istore_n k =>
    obtain ⟨x, r, rfl, hw⟩ := zI1_el hw
    exact lv_istore_n hx hb hdg rfl hl (of_decide_eq_true hok) (zput1_c ad loc k.val (.inl x)) (fun ls2 hl2 => kk _ _ _ _ hl2 hw)
  case istore k =>
    obtain ⟨x, r, rfl, hw⟩ := zI1_el hw
    exact lv_istore hx hb hdg hl (of_decide_eq_true hok) (zput1_c ad loc k (.inl x)) (fun ls2 hl2 => kk _ _ _ _ hl2 hw)
  case astore_n k =>
    obtain ⟨x, r, rfl, hw⟩ := zR1_el hw
    exact lv_astore_n hx hb hdg rfl hl (of_decide_eq_true hok) (zput1_c ad loc k.val (.inr (.inr x))) (fun ls2 hl2 => kk _ _ _ _ hl2 hw)
  case astore k =>
    obtain ⟨x, r, rfl, hw⟩ := zR1_el hw
    exact lv_astore hx hb hdg hl (of_decide_eq_true hok) (zput1_c ad loc k (.inr (.inr x))) (fun ls2 hl2 => kk _ _ _ _ hl2 hw)
  case lstore_n k =>
    obtain ⟨x, r, rfl, hw⟩ := zL1_el hw
    exact lv_lstore_n hx hb hdg rfl hl (of_decide_eq_true hok) (zput2_c ad loc k.val (.inr (.inl x))) (fun ls2 hl2 => kk _ _ _ _ hl2 hw)
  case lstore k =>
    obtain ⟨x, r, rfl, hw⟩ := zL1_el hw
    exact lv_lstore hx hb hdg hl (of_decide_eq_true hok) (zput2_c ad loc k (.inr (.inl x))) (fun ls2 hl2 => kk _ _ _ _ hl2 hw)
  case iinc k n =>
    cases hv : zget loc k with
    | none => simp only [zst1, hv] at hw
    | some v =>
      match v, hv with
      | .inl x, hv =>
        simp only [zst1, hv] at hw
        obtain ⟨k9, hk9⟩ := zget_pos (ad := ad) hv
        exact lv_iinc hx hb hdg hl hk9 rfl (of_decide_eq_true hok) (zput1_c ad loc k (.inl (x + Int32.ofInt n))) (fun ls2 hl2 => kk _ _ _ _ hl2 hw)
      | .inr x, hv => simp only [zst1, hv] at hw
  all_goals exact False.elim hw
end ZS1
