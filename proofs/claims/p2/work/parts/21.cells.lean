/-! the instructions that read and write cells -/
/-- fld: a link's number gives the class's number, the field's place, and its kind: 0 an int, 1 a boolean, 2 a long, 3 a reference -/
def zst2 (tab : Nat → (Nat × List Nat) ⊕ (Nat × Nat × List Nat)) (fld : Nat → Option (Nat × Nat × Nat)) (i : Instr) (pc : Nat) (loc : zL) (stk : List zV) (h : zH) (K : Nat → zL → List zV → zH → Prop) : Prop := match i with
  | .getfield idx => zR1 stk (fun k r => match tab k, fld idx with
    | .inl (ci, fk), some (cj, fi, _) => ci = cj ∧ (match fk[fi]? with
      | some t => K (pc + 3) loc (zfa h k fi t :: r) h
      | none => False)
    | _, _ => False)
  | .putfield idx => match stk with
    | .inl x :: .inr (.inr k) :: r => (match tab k, fld idx with
      | .inl (ci, fk), some (cj, fi, b) => ci = cj ∧ fk[fi]? = some 0 ∧ b ≤ 1 ∧ (b = 1 → x = 0 ∨ x = 1) ∧ K (pc + 3) loc r (zs h k fi x)
      | _, _ => False)
    | .inr (.inl x) :: .inr (.inr k) :: r => (match tab k, fld idx with
      | .inl (ci, fk), some (cj, fi, b) => ci = cj ∧ fk[fi]? = some 1 ∧ b = 2 ∧ K (pc + 3) loc r (zsl h k x)
      | _, _ => False)
    | _ => False
  | .iaload => match stk with
    | .inl x :: .inr (.inr k) :: r => (match tab k with
      | .inr (0, n, _) => vp_in x n ∧ K (pc + 1) loc (.inl (h.1 k x.toNatClampNeg) :: r) h
      | _ => False)
    | _ => False
  | .baload => match stk with
    | .inl x :: .inr (.inr k) :: r => (match tab k with
      | .inr (1, n, _) => vp_in x n ∧ K (pc + 1) loc (.inl (h.1 k x.toNatClampNeg) :: r) h
      | _ => False)
    | _ => False
  | .aaload => match stk with
    | .inl x :: .inr (.inr k) :: r => (match tab k with
      | .inr (t, n, q) => (t = 2 ∨ t = 3) ∧ vp_in x n ∧ ∃ z, q[x.toNatClampNeg]? = some z ∧ K (pc + 1) loc (.inr (.inr z) :: r) h
      | _ => False)
    | _ => False
  | .iastore => match stk with
    | .inl v :: .inl x :: .inr (.inr k) :: r => (match tab k with
      | .inr (0, n, _) => vp_in x n ∧ K (pc + 1) loc r (zs h k x.toNatClampNeg v)
      | _ => False)
    | _ => False
  | .bastore => match stk with
    | .inl v :: .inl x :: .inr (.inr k) :: r => (match tab k with
      | .inr (1, n, _) => vp_in x n ∧ (v = 0 ∨ v = 1) ∧ K (pc + 1) loc r (zs h k x.toNatClampNeg v)
      | _ => False)
    | _ => False
  | .arraylength => zR1 stk (fun k r => match tab k with
    | .inr (t, n, _) => t ≤ 3 ∧ K (pc + 1) loc (.inl (Int32.ofNat n) :: r) h
    | _ => False)
  | _ => False
def zCls (Ts : List Cond) (ci : Nat) (C : String) (T : u_T) (Nf : Nat) (ty0 : Nat → FieldType) : Prop := vwCl[ci]? = some (C, T, Nf) ∧ (∀ w ∈ u_ws C T Nf, w ∈ Ts) ∧ (∀ k, k < Nf → parseFieldDescriptor (T k).2.2.1 = some (ty0 k)) ∧ (∀ a, a < Nf → ∀ b, b < Nf → a ≠ b → (T a).2.1 ≠ (T b).2.1)
def zFT (b : Nat) : FieldType := match b with
  | 0 => .int
  | 1 => .boolean
  | _ => .long
def zFldOk (Ts : List Cond) (own : String) (fld : Nat → Option (Nat × Nat × Nat)) : Prop := ∀ idx cj fi b, fld idx = some (cj, fi, b) → ∃ (C : String) (T : u_T) (Nf : Nat) (ty0 : Nat → FieldType), zCls Ts cj C T Nf ty0 ∧ fi < Nf ∧ Cond.fieldLink own idx (T fi).1 (T fi).2.1 (T fi).2.2.1 ∈ Ts ∧ (b ≤ 2 → (T fi).2.2.2 = false ∧ parseFieldDescriptor (T fi).2.2.1 = some (zFT b))
section ZALD
variable {p : Program} {l : Launch} {e : Env} {R : Room} {s : State} {m : MethodId} {args : Array Value} {below : List Frame} {meth : Method} {c : Code} {H : Heap} {locs : List Loc} {cells slots : Nat} {Q : State → Prop} {cc : ByteArray} {pc : Nat} {ls : Array Slot} {rest : List Value} {D : va_G} {cl : List vw_C} {a : Nat} {tys : List (ClassId × FieldType)} {ws : va_W}
/-- a row of rows is read -/
theorem z_aldg (hexec : p.tables.exec = Jvm.exec) (hb : c.code = cc) (hK : va_K D cl tys s) (hP : va_P D cl ws H) (q0 t0 : Nat) {cA : ClassId} {n : Nat} {f : Nat → Option Nat} (ha : ws[q0]? = some (a, .inl (cA, n, .inr (.inr (.inr (.inr f)))))) (ht : tys[t0]? = some (cA, .array .int)) {i : Int32} (hin : vp_in i n) (hdg : decode cc pc = .ok (.aaload, 1))
    (kk : W p l e R s m args below meth c H locs cells slots Q (F0 m (pc + 1) ls (va_rf (f i.toNatClampNeg) :: rest))) : W p l e R s m args below meth c H locs cells slots Q (F0 m pc ls (.int i :: .ref a :: rest)) := by
  have hlt : i.toNatClampNeg < n := Nat.not_le.mp fun q => hin (Or.inr q)
  exact W.aald (v := va_rf (f i.toNatClampNeg)) (ty := .array .int) hexec hb (hP q0 _ ha) ((hK.2 t0 _ ht).1 n (fun j => va_rf (f j))) rfl (fun q => by cases q) (by show ¬ (i < 0 ∨ (arrV _ _ _).slots.size ≤ _); rw [arrV_size]; exact hin) (by show (arrV _ _ _).slots[_]? = _; rw [arrV_read _ _ hlt]) rfl rfl hdg kk
end ZALD
section ZS2
variable {p : Program} {l : Launch} {e : Env} {R : Room} {s : State} {m : MethodId} {args : Array Value} {below : List Frame} {meth : Method} {c : Code} {cells slots : Nat} {Q : State → Prop} {cc : ByteArray} {ad : Nat → Nat} {nL N : Nat} {A : Nat → Prop}
variable {tab : Nat → (Nat × List Nat) ⊕ (Nat × Nat × List Nat)} {fld : Nat → Option (Nat × Nat × Nat)} {cI cZ cQ cG : ClassId} {dC : Nat → ClassId} {dI : Nat → Nat → Nat} {Ts : List Cond} {own : String}
abbrev zTy (cI cZ cQ cG : ClassId) : List (ClassId × FieldType) := [(cI, .int), (cZ, .boolean), (cQ, .object RX8), (cG, .array .int)]
theorem zce_obj {h : zH} {k ci : Nat} {fk : List Nat} (ht : tab k = .inl (ci, fk)) : zce tab cI cZ cQ cG ad h k = .inr (ci, zfs ad h k fk) := by
  unfold zce
  rw [ht]
theorem zce_i {h : zH} {k n : Nat} {r : List Nat} (ht : tab k = .inr (0, n, r)) : zce tab cI cZ cQ cG ad h k = .inl (cI, n, .inl (h.1 k)) := by
  unfold zce
  rw [ht]
  rfl
theorem zce_z {h : zH} {k n : Nat} {r : List Nat} (ht : tab k = .inr (1, n, r)) : zce tab cI cZ cQ cG ad h k = .inl (cZ, n, .inl (h.1 k)) := by
  unfold zce
  rw [ht]
  rfl
theorem zce_q {h : zH} {k n : Nat} {r : List Nat} (ht : tab k = .inr (2, n, r)) : zce tab cI cZ cQ cG ad h k = .inl (cQ, n, .inr (.inr (.inr (.inr (fun i => (r[i]?).map ad))))) := by
  unfold zce
  rw [ht]
  rfl
theorem zce_g {h : zH} {k n : Nat} {r : List Nat} (ht : tab k = .inr (3, n, r)) : zce tab cI cZ cQ cG ad h k = .inl (cG, n, .inr (.inr (.inr (.inr (fun i => (r[i]?).map ad))))) := by
  unfold zce
  rw [ht]
  rfl
theorem zfs_setl {h : zH} {id fi : Nat} {v : Int64} {fk : List Nat} (hk : fk[fi]? = some 1) (h1 : ∀ j, fk[j]? = some 1 → j = fi) : (zfs ad h id fk).set fi (.long v) = zfs ad (zsl h id v) id fk := by
  have hlt : fi < fk.length := (List.getElem?_eq_some_iff.mp hk).1
  apply List.ext_getElem?
  intro j
  rw [List.getElem?_set]
  by_cases hj : fi = j
  · subst hj
    rw [if_pos rfl, zfs_at hk]
    have : fi < (zfs ad h id fk).length := by unfold zfs; simp; exact hlt
    rw [if_pos this]
    show some (Value.long v) = some (Value.long (if id = id then v else _))
    rw [if_pos rfl]
  · rw [if_neg hj]
    cases hf : fk[j]? with
    | none =>
      have hn : fk.length ≤ j := List.getElem?_eq_none_iff.mp hf
      unfold zfs
      rw [List.getElem?_eq_none (by simp; exact hn), List.getElem?_eq_none (by simp; exact hn)]
    | some k =>
      rw [zfs_at hf, zfs_at hf]
      match k, hf with
      | 0, _ => rfl
      | 1, hf => exact absurd (h1 j hf).symm hj
      | k + 2, _ => rfl
set_option maxHeartbeats 8000000 in
/-- soundness, an instruction that reads or writes a cell -/
theorem zst2_sound (hx : p.tables.exec = Jvm.exec) (hb : c.code = cc) (hts : ∀ w ∈ Ts, w.before args s = true) (hown : s.vm.findClass own = some m.cls) (hK : va_K (dC, dI) vwCl (zTy cI cZ cQ cG) s) (hF : zFldOk Ts own fld) (hN : ∀ k, N ≤ k → ∃ t n r, 4 ≤ t ∧ tab k = .inr (t, n, r)) (hlong : ∀ (k ci : Nat) (fk : List Nat) (fi j : Nat), tab k = .inl (ci, fk) → fk[fi]? = some 1 → fk[j]? = some 1 → j = fi)
    {i : Instr} {pc : Nat} {loc : zL} {stk : List zV} {h : zH} {H : Heap} {locs : List Loc} {ls : Array Slot} {K : Nat → zL → List zV → zH → Prop} (hdg : decode cc pc = .ok (i, zlen i)) (hl : lv_has ls nL (zc ad loc)) (hP : va_P (dC, dI) vwCl (zW tab cI cZ cQ cG ad N h) H) (hD : va_D A (zW tab cI cZ cQ cG ad N h)) (hS : va_S A s.heap H locs) (hw : zst2 tab fld i pc loc stk h K)
    (kk : ∀ (pc' : Nat) (loc' : zL) (stk' : List zV) (h' : zH) (H' : Heap) (locs' : List Loc) (ls' : Array Slot), lv_has ls' nL (zc ad loc') → va_P (dC, dI) vwCl (zW tab cI cZ cQ cG ad N h') H' → va_D A (zW tab cI cZ cQ cG ad N h') → va_S A s.heap H' locs' → K pc' loc' stk' h' → W p l e R s m args below meth c H' locs' cells slots Q (F0 m pc' ls' (stk'.map (zv ad)))) : W p l e R s m args below meth c H locs cells slots Q (F0 m pc ls (stk.map (zv ad))) := by
  have hlt : ∀ {k : Nat} {x}, tab k = x → (∀ t n r, 4 ≤ t → x ≠ .inr (t, n, r)) → k < N := fun {k x} e1 e2 => by
    rcases Nat.lt_or_ge k N with q | q
    · exact q
    · obtain ⟨t, n, r, h4, e3⟩ := hN k q
      exact absurd (e1.symm.trans e3) (e2 t n r h4)
  have hno : ∀ {a : Nat × List Nat}, ∀ t n r, 4 ≤ t → (Sum.inl a : (Nat × List Nat) ⊕ (Nat × Nat × List Nat)) ≠ .inr (t, n, r) := fun t n r _ e => by cases e
  have hnr : ∀ {t0 n0 : Nat} {r0 : List Nat}, t0 ≤ 3 → ∀ t n r, 4 ≤ t → (Sum.inr (t0, n0, r0) : (Nat × List Nat) ⊕ (Nat × Nat × List Nat)) ≠ .inr (t, n, r) := fun h3 t n r h4 e => by cases e; omega
  cases i
  case getfield idx =>
    simp only [zst2] at hw
    obtain ⟨k, r, e9, hw2⟩ := zR1_el hw
    clear hw
    subst e9
    have hw := hw2
    clear hw2
    cases ht : tab k with
    | inr z => simp only [ht] at hw
    | inl z =>
      obtain ⟨ci, fk⟩ := z
      cases hf : fld idx with
      | none => simp only [ht, hf] at hw
      | some z =>
        obtain ⟨cj, fi, b⟩ := z
        simp only [ht, hf] at hw
        obtain ⟨rfl, hw⟩ := hw
        cases hk : fk[fi]? with
        | none => simp only [hk] at hw
        | some t =>
          simp only [hk] at hw
          obtain ⟨C, T, Nf, ty0, hC, hfi, hlk, -⟩ := hF idx ci fi b hf
          have k9 := kk _ _ _ _ _ _ _ hl hP hD hS hw
          have he : (zW tab cI cZ cQ cG ad N h)[k]? = some (ad k, .inr (ci, zfs ad h k fk)) := by
            rw [zW_at (hlt ht hno), zce_obj ht]
          refine va_get (D := (dC, dI)) (ci := ci) (v := zfv ad h k fi t) (C := C) (T := T) (N := Nf) hx hb hts hC.2.1 hown hK hP k he hC.1 fi hfi (hts _ hlk) (fun _ h9 => h9) (zfs_at hk) hdg ?_
          rw [List.map_cons, zfa_c] at k9
          exact k9
  case putfield idx =>
    match stk, hw with
    | .inl x :: .inr (.inr k) :: r, hw =>
      simp only [zst2] at hw
      cases ht : tab k with
      | inr z => simp only [ht] at hw
      | inl z =>
        obtain ⟨ci, fk⟩ := z
        cases hf : fld idx with
        | none => simp only [ht, hf] at hw
        | some z =>
          obtain ⟨cj, fi, b⟩ := z
          simp only [ht, hf] at hw
          obtain ⟨rfl, hk, hb1, hz, hw⟩ := hw
          obtain ⟨C, T, Nf, ty0, hC, hfi, hlk, hty⟩ := hF idx ci fi b hf
          obtain ⟨hfin, hpt⟩ := hty (by omega)
          have he : (zW tab cI cZ cQ cG ad N h)[k]? = some (ad k, .inr (ci, zfs ad h k fk)) := by
            rw [zW_at (hlt ht hno), zce_obj ht]
          have hlen : fi < (zfs ad h k fk).length := by unfold zfs; simp; exact (List.getElem?_eq_some_iff.mp hk).1
          have hnar : narrow (zFT b) (.int x) = .int x ∧ fits (zFT b) (.int x) = true := by
            match b, hb1, hz with
            | 0, _, _ => exact ⟨rfl, rfl⟩
            | 1, _, hz => rcases hz rfl with rfl | rfl <;> exact ⟨rfl, rfl⟩
          refine va_put (D := (dC, dI)) (ci := ci) (v := .int x) (ty := zFT b) (C := C) (T := T) (N := Nf) hx hb hts hC.2.1 ty0 hC.2.2.1 hC.2.2.2 hown hK hP hD hS k he hC.1 fi hfi (hts _ hlk) (fun _ h9 => h9) hfin hpt hnar.1 hnar.2 hlen hdg (fun H1 locs1 hP1 hD1 hS1 => ?_)
          have es : (zW tab cI cZ cQ cG ad N h).set k (ad k, .inr (ci, (zfs ad h k fk).set fi (.int x))) = zW tab cI cZ cQ cG ad N (zs h k fi x) :=
            zW_set (hlt ht hno) (by rw [zce_obj ht, zfs_set hk]) (fun a ha => zs_other ha)
          rw [es] at hP1 hD1
          exact kk _ _ _ _ _ _ _ hl hP1 hD1 hS1 hw
    | .inr (.inl x) :: .inr (.inr k) :: r, hw =>
      simp only [zst2] at hw
      cases ht : tab k with
      | inr z => simp only [ht] at hw
      | inl z =>
        obtain ⟨ci, fk⟩ := z
        cases hf : fld idx with
        | none => simp only [ht, hf] at hw
        | some z =>
          obtain ⟨cj, fi, b⟩ := z
          simp only [ht, hf] at hw
          obtain ⟨rfl, hk, rfl, hw⟩ := hw
          obtain ⟨C, T, Nf, ty0, hC, hfi, hlk, hty⟩ := hF idx ci fi 2 hf
          obtain ⟨hfin, hpt⟩ := hty (Nat.le_refl 2)
          have he : (zW tab cI cZ cQ cG ad N h)[k]? = some (ad k, .inr (ci, zfs ad h k fk)) := by
            rw [zW_at (hlt ht hno), zce_obj ht]
          have hlen : fi < (zfs ad h k fk).length := by unfold zfs; simp; exact (List.getElem?_eq_some_iff.mp hk).1
          refine va_put (D := (dC, dI)) (ci := ci) (v := .long x) (ty := .long) (C := C) (T := T) (N := Nf) hx hb hts hC.2.1 ty0 hC.2.2.1 hC.2.2.2 hown hK hP hD hS k he hC.1 fi hfi (hts _ hlk) (fun _ h9 => h9) hfin hpt rfl rfl hlen hdg (fun H1 locs1 hP1 hD1 hS1 => ?_)
          have es : (zW tab cI cZ cQ cG ad N h).set k (ad k, .inr (ci, (zfs ad h k fk).set fi (.long x))) = zW tab cI cZ cQ cG ad N (zsl h k x) :=
            zW_set (hlt ht hno) (by rw [zce_obj ht, zfs_setl hk (fun j hj => hlong k ci fk fi j ht hk hj)]) (fun a ha => ⟨rfl, by show (if a = k then x else h.2 a) = _; rw [if_neg ha]⟩)
          rw [es] at hP1 hD1
          exact kk _ _ _ _ _ _ _ hl hP1 hD1 hS1 hw
  case iaload =>
    match stk, hw with
    | .inl x :: .inr (.inr k) :: r, hw =>
      simp only [zst2] at hw
      cases ht : tab k with
      | inl z => rw [ht] at hw; exact False.elim hw
      | inr z =>
        obtain ⟨t, n, q⟩ := z
        match t, ht with
        | 0, ht =>
          rw [ht] at hw
          have he : (zW tab cI cZ cQ cG ad N h)[k]? = some (ad k, .inl (cI, n, .inl (h.1 k))) := by rw [zW_at (hlt ht (hnr (by decide))), zce_i ht]
          have k9 := kk _ _ _ _ _ _ _ hl hP hD hS hw.2
          exact va_iald (i := x) hx hb hK hP k 0 he rfl hw.1 hdg k9
        | t + 1, ht => rw [ht] at hw; exact False.elim hw
  case baload =>
    match stk, hw with
    | .inl x :: .inr (.inr k) :: r, hw =>
      simp only [zst2] at hw
      cases ht : tab k with
      | inl z => rw [ht] at hw; exact False.elim hw
      | inr z =>
        obtain ⟨t, n, q⟩ := z
        match t, ht with
        | 0, ht => rw [ht] at hw; exact False.elim hw
        | 1, ht =>
          rw [ht] at hw
          have he : (zW tab cI cZ cQ cG ad N h)[k]? = some (ad k, .inl (cZ, n, .inl (h.1 k))) := by rw [zW_at (hlt ht (hnr (by decide))), zce_z ht]
          have k9 := kk _ _ _ _ _ _ _ hl hP hD hS hw.2
          exact va_zald (i := x) hx hb hK hP k 1 he rfl hw.1 hdg k9
        | t + 2, ht => rw [ht] at hw; exact False.elim hw
  case iastore =>
    match stk, hw with
    | .inl v :: .inl x :: .inr (.inr k) :: r, hw =>
      simp only [zst2] at hw
      cases ht : tab k with
      | inl z => rw [ht] at hw; exact False.elim hw
      | inr z =>
        obtain ⟨t, n, q⟩ := z
        match t, ht with
        | 0, ht =>
          rw [ht] at hw
          have he : (zW tab cI cZ cQ cG ad N h)[k]? = some (ad k, .inl (cI, n, .inl (h.1 k))) := by rw [zW_at (hlt ht (hnr (by decide))), zce_i ht]
          refine va_iast (i := x) hx hb hK hP hD hS k 0 he rfl hw.1 hdg (fun H1 locs1 hP1 hD1 hS1 => ?_)
          have es : (zW tab cI cZ cQ cG ad N h).set k (ad k, .inl (cI, n, .inl (upd (h.1 k) x.toNatClampNeg v))) = zW tab cI cZ cQ cG ad N (zs h k x.toNatClampNeg v) := zW_set (hlt ht (hnr (by decide))) (by rw [zce_i ht, zs_row]) (fun a ha => zs_other ha)
          rw [es] at hP1 hD1
          exact kk _ _ _ _ _ _ _ hl hP1 hD1 hS1 hw.2
        | t + 1, ht => rw [ht] at hw; exact False.elim hw
  case bastore =>
    match stk, hw with
    | .inl v :: .inl x :: .inr (.inr k) :: r, hw =>
      simp only [zst2] at hw
      cases ht : tab k with
      | inl z => rw [ht] at hw; exact False.elim hw
      | inr z =>
        obtain ⟨t, n, q⟩ := z
        match t, ht with
        | 0, ht => rw [ht] at hw; exact False.elim hw
        | 1, ht =>
          rw [ht] at hw
          have he : (zW tab cI cZ cQ cG ad N h)[k]? = some (ad k, .inl (cZ, n, .inl (h.1 k))) := by rw [zW_at (hlt ht (hnr (by decide))), zce_z ht]
          refine va_zast (i := x) hx hb hK hP hD hS k 1 he rfl hw.1 hdg (fun H1 locs1 hP1 hD1 hS1 => ?_)
          have hv9 : vp_nar .boolean v = v := by rcases hw.2.1 with rfl | rfl <;> rfl
          rw [hv9] at hP1 hD1
          have es : (zW tab cI cZ cQ cG ad N h).set k (ad k, .inl (cZ, n, .inl (upd (h.1 k) x.toNatClampNeg v))) = zW tab cI cZ cQ cG ad N (zs h k x.toNatClampNeg v) := zW_set (hlt ht (hnr (by decide))) (by rw [zce_z ht, zs_row]) (fun a ha => zs_other ha)
          rw [es] at hP1 hD1
          exact kk _ _ _ _ _ _ _ hl hP1 hD1 hS1 hw.2.2
        | t + 2, ht => rw [ht] at hw; exact False.elim hw
  case arraylength =>
    simp only [zst2] at hw
    obtain ⟨k, r, e9, hw2⟩ := zR1_el hw
    clear hw
    subst e9
    have hw := hw2
    clear hw2
    cases ht : tab k with
    | inl z => simp only [ht] at hw
    | inr z =>
      obtain ⟨t, n, q⟩ := z
      simp only [ht] at hw
      obtain ⟨h3, hw⟩ := hw
      have k9 := kk _ _ _ _ _ _ _ hl hP hD hS hw
      match t, ht, h3 with
      | 0, ht, _ => exact va_alen hx hb hK hP k 0 (show (zW tab cI cZ cQ cG ad N h)[k]? = some (ad k, .inl (cI, n, .inl (h.1 k))) by rw [zW_at (hlt ht (hnr (by decide))), zce_i ht]) rfl rfl hdg k9
      | 1, ht, _ => exact va_alen hx hb hK hP k 1 (show (zW tab cI cZ cQ cG ad N h)[k]? = some (ad k, .inl (cZ, n, .inl (h.1 k))) by rw [zW_at (hlt ht (hnr (by decide))), zce_z ht]) rfl rfl hdg k9
      | 2, ht, _ => exact va_alen hx hb hK hP k 2 (show (zW tab cI cZ cQ cG ad N h)[k]? = some (ad k, .inl (cQ, n, .inr (.inr (.inr (.inr (fun i => (q[i]?).map ad)))))) by rw [zW_at (hlt ht (hnr (by decide))), zce_q ht]) rfl rfl hdg k9
      | 3, ht, _ => exact va_alen hx hb hK hP k 3 (show (zW tab cI cZ cQ cG ad N h)[k]? = some (ad k, .inl (cG, n, .inr (.inr (.inr (.inr (fun i => (q[i]?).map ad)))))) by rw [zW_at (hlt ht (hnr (by decide))), zce_g ht]) rfl rfl hdg k9
  case aaload =>
    match stk, hw with
    | .inl x :: .inr (.inr k) :: r, hw =>
      simp only [zst2] at hw
      cases ht : tab k with
      | inl z => rw [ht] at hw; exact False.elim hw
      | inr z =>
        obtain ⟨t, n, q⟩ := z
        rw [ht] at hw
        obtain ⟨h3, hin, z, hz, hw⟩ := hw
        have k9 := kk _ _ _ _ _ _ _ hl hP hD hS hw
        have ez : va_rf ((q[x.toNatClampNeg]?).map ad) = .ref (ad z) := by rw [hz]; rfl
        rcases h3 with rfl | rfl
        · refine va_aldq (i := x) (f := fun i => (q[i]?).map ad) (C := RX8) hx hb hK hP k 2 (show (zW tab cI cZ cQ cG ad N h)[k]? = some (ad k, .inl (cQ, n, .inr (.inr (.inr (.inr (fun i => (q[i]?).map ad)))))) by rw [zW_at (hlt ht (hnr (by decide))), zce_q ht]) rfl hin hdg ?_
          show W p l e R s m args below meth c H locs cells slots Q (F0 m (pc + 1) ls (va_rf ((q[x.toNatClampNeg]?).map ad) :: _))
          rw [ez]
          exact k9
        · refine z_aldg (i := x) (f := fun i => (q[i]?).map ad) hx hb hK hP k 3 (show (zW tab cI cZ cQ cG ad N h)[k]? = some (ad k, .inl (cG, n, .inr (.inr (.inr (.inr (fun i => (q[i]?).map ad)))))) by rw [zW_at (hlt ht (hnr (by decide))), zce_g ht]) rfl hin hdg ?_
          show W p l e R s m args below meth c H locs cells slots Q (F0 m (pc + 1) ls (va_rf ((q[x.toNatClampNeg]?).map ad) :: _))
          rw [ez]
          exact k9
  all_goals exact False.elim hw
end ZS2
