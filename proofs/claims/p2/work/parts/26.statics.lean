/-! statics, constant texts, arraycopy -/
section ZCOPY
variable {p : Program} {l : Launch} {e : Env} {R : Room} {s : State} {m : MethodId} {args : Array Value} {below : List Frame} {meth : Method} {c : Code} {H : Heap} {locs : List Loc} {cells slots : Nat} {Q : State → Prop}
variable {cc : ByteArray} {pc : Nat} {ls : Array Slot} {rest : List Value} {D : va_G} {cl : List vw_C} {A : Nat → Prop} {a : Nat} {tys : List (ClassId × FieldType)} {ws : va_W}
/-- System.arraycopy out of a static table of ints into a row of the world -/
theorem z_copyt (hexec : p.tables.exec = Jvm.exec) (hb : c.code = cc) (hml : c.maxLocals = ls.size) {own : String} {index : Nat} (hown : s.vm.findClass own = some m.cls) (hlink : (Cond.methodLink own index arraycopyName).before args s = true) (hnat : (Cond.native arraycopyName).before args s = true) (hstat : (Cond.static arraycopyName).before args s = true) (hini : (Cond.initialized "java/lang/System").before args s = true)
    (hK : va_K D cl tys s) (hP : va_P D cl ws H) (hD : va_D A ws) (hS : va_S A s.heap H locs) {b0 n0 : Nat} {f : Nat → Int32} (hX : va_T .int b0 n0 (fun j => .int (f j)) A s s.heap) (q1 t1 : Nat) {c1 : ClassId} {n1 : Nat} {g : Nat → Int32} (ha1 : ws[q1]? = some (a, .inl (c1, n1, .inl g))) (ht1 : tys[t1]? = some (c1, .int))
    {sp dp n : Int32} (h1 : ¬ sp < 0) (h2 : ¬ dp < 0) (h3 : ¬ n < 0) (h4 : sp.toNatClampNeg + n.toNatClampNeg ≤ n0) (h5 : dp.toNatClampNeg + n.toNatClampNeg ≤ n1) (hfit : ∀ i : Nat, i < n.toNatClampNeg → fits .int (.int (f (sp.toNatClampNeg + i))) = true)
    (hframes : 1 ≤ R.frames) (hlocals : (rest.map fun v => v.category).sum + (nativeFrameWords "java/lang/System" "arraycopy" 5 + 11) ≤ R.locals) (hdg : decode cc pc = .ok (.invokestatic index, 3))
    (kk : ∀ (H1 : Heap) (locs1 : List Loc), va_P D cl (ws.set q1 (a, .inl (c1, n1, .inl (va_cpy f g sp.toNatClampNeg dp.toNatClampNeg n.toNatClampNeg)))) H1 → va_D A (ws.set q1 (a, .inl (c1, n1, .inl (va_cpy f g sp.toNatClampNeg dp.toNatClampNeg n.toNatClampNeg)))) → va_S A s.heap H1 locs1 → W p l e R s m args below meth c H1 locs1 cells slots Q (F0 m (pc + 3) ls rest)) : W p l e R s m args below meth c H locs cells slots Q (F0 m pc ls (.int n :: .int dp :: .ref a :: .int sp :: .ref b0 :: rest)) := by
  have nn : ∀ z : Int32, ¬ z < 0 → z.toInt = (z.toNatClampNeg : Int) := by
    intro z hz
    have hz0 : (0 : Int) ≤ z.toInt := by
      have := Int32.not_lt.mp hz
      simpa using Int32.le_iff_toInt_le.mp this
    show z.toInt = ((z.toInt.toNat : Nat) : Int)
    omega
  intro T hT X
  obtain ⟨scr, hs1, hs2, hs3, hs4, -, hs5, hs7⟩ := hX
  have hc0 : H[b0]? = some scr := by rw [hS.2.1 b0 (Array.getElem?_eq_some_iff.mp hs1).1 hs7]; exact hs1
  have hc1 : H[a]? = some (vp_cell c1 (n1, .inl g)) := hP q1 _ ha1
  obtain ⟨hs6, k0, hk0, cm0, hkk0⟩ := hs2
  obtain ⟨-, k1, hk1, cm1, hkk1⟩ := (hK.2 t1 _ ht1).1 n1 (fun j => .int (g j))
  obtain ⟨vm', X', step⟩ := X.arraycopy hexec hown hlink hnat hstat hini (src := b0) (dst := a) (cs := scr) (cd := vp_cell c1 (n1, .inl g)) (srcPos := sp) (destPos := dp) (n := n) (by rw [hT]; exact hc0) (by rw [hT]; exact hc1)
    hs6 (fun _ h => by cases h) hs3 (fun h => by cases h) hk0 hk1 hkk0 hkk1 (by simp [refKind]) h1 h2 h3
    (by rw [nn sp h1, nn n h3]; omega)
    (by rw [nn dp h2, nn n h3]; show ¬ _ > ((arrV c1 n1 (fun j => .int (g j))).slots.size : Int); rw [arrV_size]; omega)
    (fun vm₁ _ i hi => by
      have e : scr.slots.getD (sp.toNatClampNeg + i) .null = .int (f (sp.toNatClampNeg + i)) := by
        rw [Array.getD_eq_getD_getElem?, hs5 _ (by omega)]
        rfl
      refine ⟨?_, ?_⟩
      · rw [e]
        exact hfit i hi
      · rw [e]
        exact trivial)
    (g := F0 m pc ls (.int n :: .int dp :: .ref a :: .int sp :: .ref b0 :: rest)) rfl (by rw [hml]) (rest := rest) rfl (by rw [hb]; exact hdg) hframes (by show 2 * 0 + _ + _ ≤ _; omega)
  have e1 : copied scr (vp_cell c1 (n1, .inl g)) sp dp n = vp_cell c1 (n1, .inl (va_cpy f g sp.toNatClampNeg dp.toNatClampNeg n.toNatClampNeg)) := va_copiedX (fun z => .int z) scr c1 f g hs5 h4
  rw [e1] at X' step
  have hl : a < H.size := (Array.getElem?_eq_some_iff.mp hc1).1
  obtain ⟨N, hN⟩ : ∃ N, N = vp_cell c1 (n1, .inl (va_cpy f g sp.toNatClampNeg dp.toNatClampNeg n.toNatClampNeg)) := ⟨_, rfl⟩
  rw [← hN] at X' step
  have hheap : ((T.setVm vm').setCell a N).heap = H.setIfInBounds a N := by rw [← hT]; rfl
  have oq : ∀ q : Nat, q ≠ a → (H.setIfInBounds a N)[q]? = H[q]? := fun q hq => by simp [Array.getElem?_setIfInBounds, Ne.symm hq]
  have oa : (H.setIfInBounds a N)[a]? = some N := by simp [Array.getElem?_setIfInBounds, hl]
  have hin : A a := hD.2 q1 _ ha1
  have hS' : ∀ L : List Loc, (∀ z ∈ L, z.base = a) → va_S A s.heap (H.setIfInBounds a N) (locs ++ L) := fun L hL => by
    refine ⟨by simp; exact hS.1, fun q g1 g2 => ?_, fun q hq => ?_⟩
    · rw [oq q (fun e => g2 (by rw [e]; exact hin))]
      exact hS.2.1 q g1 g2
    · rcases List.mem_append.mp hq with h | h
      · exact hS.2.2 q h
      · rw [hL q h]
        exact hin
  obtain ⟨t, a1, b1⟩ := kk _ _ (hP.set hD ha1 (show (H.setIfInBounds a N)[a]? = some (vp_cell _ _) by rw [oa, hN]) oq) (hD.set ha1) (hS' _ (fun z hz => by
      obtain ⟨y, -, hy⟩ := List.mem_map.mp hz
      rw [← hy])) _ hheap X'
  exact ⟨t, step t a1, b1⟩
end ZCOPY

/-- a row anew -/
def zsr (h : zH) (a : Nat) (g : Nat → Int32) : zH := (fun c => if c = a then g else h.1 c, h.2)
/-- gst: a static field's value; ldS: a text's cell; fldS: a text's field, 0 its bytes, else its coder; acp: System.arraycopy -/
def zf6 (tab : Nat → (Nat × List Nat) ⊕ (Nat × Nat × List Nat)) (gst : Nat → Option zV) (ldS fldS : Nat → Option Nat) (acp : Nat → Bool) (i : Instr) (pc : Nat) (loc : zL) (stk : List zV) (h : zH) : Option zN := match i with
  | .getstatic idx => match gst idx with
    | some v => some (pc + 3, loc, v :: stk, h)
    | none => none
  | .ldc idx => match ldS idx with
    | some k => some (pc + 2, loc, .inr (.inr k) :: stk, h)
    | none => none
  | .getfield idx => zoR1 stk (fun k r => zoA (zar tab k 5) (fun v _ => match fldS idx with
    | some 0 => some (pc + 3, loc, .inr (.inr v) :: r, h)
    | some _ => some (pc + 3, loc, .inl 0 :: r, h)
    | none => none))
  | .iaload => zoRI stk (fun k x r => zoA (zar tab k 4) (fun n q => zgd (zin x n) (some (pc + 1, loc, .inl (Int32.ofNat (q.getD x.toNatClampNeg 0)) :: r, h))))
  | .baload => zoRI stk (fun k x r => zoA (zar tab k 6) (fun n q => zgd (zin x n) (some (pc + 1, loc, .inl (Int32.ofNat (q.getD x.toNatClampNeg 0)) :: r, h))))
  | .arraylength => zoR1 stk (fun k r => match tab k with
    | .inr (t, n, _) => zgd (decide (t = 4 ∨ t = 6)) (some (pc + 1, loc, .inl (Int32.ofNat n) :: r, h))
    | _ => none)
  | .i2b => zo1 stk (fun x r => some (pc + 1, loc, .inl x.toInt8.toInt32 :: r, h))
  | .invokestatic idx => zgd (acp idx) (match stk with
    | .inl n :: .inl dp :: .inr (.inr a) :: .inl sp :: .inr (.inr b) :: r => zgd (decide ((r.map zcat).sum ≤ 8)) (zoA (zar tab a 0) (fun n1 _ => match tab b with
      | .inr (t, n0, q) => zgd (decide (t = 0 ∨ t = 4)) (zgd (decide (0 ≤ sp.toInt ∧ 0 ≤ dp.toInt ∧ 0 ≤ n.toInt ∧ sp.toInt + n.toInt ≤ (n0 : Int) ∧ dp.toInt + n.toInt ≤ (n1 : Int))) (some (pc + 3, loc, r, zsr h a (va_cpy (if t = 0 then h.1 b else fun j => Int32.ofNat (q.getD j 0)) (h.1 a) sp.toNatClampNeg dp.toNatClampNeg n.toNatClampNeg))))
      | _ => none))
    | _ => none)
  | _ => none
/-- what stands beside the world: static fields (class, name, type, value), rows and texts that nobody writes, the texts' links -/
def zTT (tab : Nat → (Nat × List Nat) ⊕ (Nat × Nat × List Nat)) (gl : List (String × String × String × zV)) (sl : List (String × Nat × String × Nat)) (ad : Nat → Nat) (A : Nat → Prop) (U : State) (H : Heap) : Prop :=
  (∀ k n q, tab k = .inr (4, n, q) → va_T .int (ad k) n (fun j => .int (Int32.ofNat (q.getD j 0))) A U H) ∧
  (∀ k n q, tab k = .inr (6, n, q) → va_T .byte (ad k) n (fun j => .int (Int32.ofNat (q.getD j 0))) A U H) ∧
  (∀ k v q, tab k = .inr (5, v, q) → va_O "java/lang/String" (ad k) A U H ∧ va_OF "java/lang/String" "coder" "B" (.int 0) (ad k) A U H ∧ va_OF "java/lang/String" "value" "[B" (.ref (ad v)) (ad k) A U H) ∧
  (∀ z ∈ gl, va_Z z.1 z.2.1 z.2.2.1 (zv ad z.2.2.2) A U H) ∧
  (∀ z ∈ sl, vk_R z.1 z.2.1 z.2.2.1 (ad z.2.2.2) U)
theorem zTT.call {tab : Nat → (Nat × List Nat) ⊕ (Nat × Nat × List Nat)} {gl : List (String × String × String × zV)} {sl : List (String × Nat × String × Nat)} {ad : Nat → Nat} {A B : Nat → Prop} {s U : State} {H : Heap} {locs : List Loc} (h : zTT tab gl sl ad A s s.heap) (hS : va_S A s.heap H locs) (hAB : ∀ q, B q → A q) (hU : U.heap = H) (hW : s.WarmedH U.vm) : zTT tab gl sl ad B U U.heap := by
  obtain ⟨h1, h2, h3, h4, h5⟩ := h
  rw [hU]
  refine ⟨fun k n q e => ?_, fun k n q e => ?_, fun k v q e => ?_, fun z hz => ?_, fun z hz => vk_R.warm hW (h5 z hz)⟩
  · exact va_T.moved hW.alike (va_T.narrow (va_T.kept (h1 k n q e) hS.2.1) hAB)
  · exact va_T.moved hW.alike (va_T.narrow (va_T.kept (h2 k n q e) hS.2.1) hAB)
  · obtain ⟨a1, a2, a3⟩ := h3 k v q e
    exact ⟨va_O.moved hW.alike (va_O.narrow (va_O.kept a1 hS.2.1) hAB), va_OF.moved hW.alike (va_OF.narrow (va_OF.kept a2 hS.2.1) hAB), va_OF.moved hW.alike (va_OF.narrow (va_OF.kept a3 hS.2.1) hAB)⟩
  · exact va_Z.moved hW.alike (va_Z.narrow (va_Z.kept (h4 z hz) hS.2.1) hAB)
theorem zTT.same {tab : Nat → (Nat × List Nat) ⊕ (Nat × Nat × List Nat)} {gl : List (String × String × String × zV)} {sl : List (String × Nat × String × Nat)} {ad : Nat → Nat} {A : Nat → Prop} {u U : State} {H : Heap} (hv : U.vm = u.vm) (h : zTT tab gl sl ad A u H) : zTT tab gl sl ad A U H := by
  have ha : u.vm.Alike U.vm := by rw [hv]; exact Vm.Alike.refl _
  obtain ⟨h1, h2, h3, h4, h5⟩ := h
  exact ⟨fun k n q e => va_T.moved ha (h1 k n q e), fun k n q e => va_T.moved ha (h2 k n q e), fun k v q e => ⟨va_O.moved ha (h3 k v q e).1, va_OF.moved ha (h3 k v q e).2.1, va_OF.moved ha (h3 k v q e).2.2⟩, fun z hz => va_Z.moved ha (h4 z hz), fun z hz => vk_R.same hv (h5 z hz)⟩
theorem znn {z : Int32} (h : 0 ≤ z.toInt) : ¬ z < 0 ∧ z.toInt = (z.toNatClampNeg : Int) := by
  refine ⟨fun q => ?_, ?_⟩
  · have := Int32.lt_iff_toInt_lt.mp q
    simp at this
    omega
  · show z.toInt = ((z.toInt.toNat : Nat) : Int)
    omega
theorem zcat_map (ad : Nat → Nat) (r : List zV) : (r.map (zv ad)).map (fun v => v.category) = r.map zcat := by
  rw [List.map_map]
  exact List.map_congr_left (fun v _ => zv_cat ad v)
section ZS6
variable {p : Program} {l : Launch} {e : Env} {R : Room} {s : State} {m : MethodId} {args : Array Value} {below : List Frame} {meth : Method} {c : Code} {cells slots : Nat} {Q : State → Prop} {cc : ByteArray} {ad : Nat → Nat} {nL N : Nat} {A : Nat → Prop}
variable {tab : Nat → (Nat × List Nat) ⊕ (Nat × Nat × List Nat)} {cI cZ cQ cG : ClassId} {dC : Nat → ClassId} {dI : Nat → Nat → Nat} {Ts : List Cond} {own : String} {gl : List (String × String × String × zV)} {sl : List (String × Nat × String × Nat)} {gst : Nat → Option zV} {ldS fldS : Nat → Option Nat} {acp : Nat → Bool}
theorem zsr_other {h : zH} {c a : Nat} {g : Nat → Int32} (ha : a ≠ c) : (zsr h c g).1 a = h.1 a ∧ (zsr h c g).2 a = h.2 a := ⟨if_neg ha, rfl⟩
theorem zsr_row {h : zH} {c : Nat} {g : Nat → Int32} : (zsr h c g).1 c = g := if_pos rfl
set_option maxHeartbeats 8000000 in
theorem zf6_sound (hx : p.tables.exec = Jvm.exec) (hb : c.code = cc) (hml : c.maxLocals = nL) (hts : ∀ w ∈ Ts, w.before args s = true) (hown : s.vm.findClass own = some m.cls) (hK : va_K (dC, dI) vwCl (zTy cI cZ cQ cG) s) (hN : ∀ k, N ≤ k → ∃ t n r, 4 ≤ t ∧ tab k = .inr (t, n, r)) (hZ : zTT tab gl sl ad A s s.heap)
    (hgst : ∀ idx v, gst idx = some v → ∃ z ∈ gl, z.2.2.2 = v ∧ Cond.fieldLink own idx z.1 z.2.1 z.2.2.1 ∈ Ts) (hldS : ∀ idx k, ldS idx = some k → ∃ tx, (own, idx, tx, k) ∈ sl) (hfldS : ∀ idx t, fldS idx = some t → Cond.fieldLink own idx "java/lang/String" (if t = 0 then "value" else "coder") (if t = 0 then "[B" else "B") ∈ Ts)
    (hacp : ∀ idx, acp idx = true → Cond.methodLink own idx arraycopyName ∈ Ts ∧ Cond.native arraycopyName ∈ Ts ∧ Cond.static arraycopyName ∈ Ts ∧ Cond.initialized "java/lang/System" ∈ Ts) (hR : 1 ≤ R.frames ∧ 8 + (nativeFrameWords "java/lang/System" "arraycopy" 5 + 11) ≤ R.locals)
    {i : Instr} {pc : Nat} {loc : zL} {stk : List zV} {h : zH} {H : Heap} {locs : List Loc} {ls : Array Slot} {q : zN} (hdg : decode cc pc = .ok (i, zlen i)) (hl : lv_has ls nL (zc ad loc)) (hP : va_P (dC, dI) vwCl (zW tab cI cZ cQ cG ad N h) H) (hD : va_D A (zW tab cI cZ cQ cG ad N h)) (hS : va_S A s.heap H locs) (hw : zf6 tab gst ldS fldS acp i pc loc stk h = some q)
    (kk : ∀ (H' : Heap) (locs' : List Loc) (ls' : Array Slot), lv_has ls' nL (zc ad q.2.1) → va_P (dC, dI) vwCl (zW tab cI cZ cQ cG ad N q.2.2.2) H' → va_D A (zW tab cI cZ cQ cG ad N q.2.2.2) → va_S A s.heap H' locs' → W p l e R s m args below meth c H' locs' cells slots Q (F0 m q.1 ls' (q.2.2.1.map (zv ad)))) : W p l e R s m args below meth c H locs cells slots Q (F0 m pc ls (stk.map (zv ad))) := by
  have hlt : ∀ {k n : Nat} {r : List Nat}, tab k = .inr (0, n, r) → k < N := fun {k n r} e1 => by
    rcases Nat.lt_or_ge k N with q | q
    · exact q
    · obtain ⟨t, n2, r2, h4, e3⟩ := hN k q
      rw [e1] at e3
      cases e3
      omega
  cases i
  case getstatic idx =>
    simp only [zf6] at hw
    cases hv : gst idx with
    | none => rw [hv] at hw; cases hw
    | some v =>
      rw [hv] at hw
      cases hw
      obtain ⟨z, hz, e1, e2⟩ := hgst idx v hv
      have k9 := kk H locs ls hl hP hD hS
      refine va_gets hx hb (hZ.2.2.2.1 z hz) hS hown (hts _ e2) (fun _ h9 => h9) hdg ?_
      rw [e1]
      exact k9
  case ldc idx =>
    simp only [zf6] at hw
    cases hv : ldS idx with
    | none => rw [hv] at hw; cases hw
    | some k =>
      rw [hv] at hw
      cases hw
      obtain ⟨tx, hz⟩ := hldS idx k hv
      have k9 := kk H locs ls hl hP hD hS
      exact va_ldcS hx hb hown (hZ.2.2.2.2 _ hz) hdg k9
  case getfield idx =>
    obtain ⟨k, r, e9, f9⟩ := zoR1_el hw
    clear hw
    subst e9
    obtain ⟨v, q2, e1, f9⟩ := zoA_el f9
    obtain ⟨-, a2, a3⟩ := hZ.2.2.1 k v q2 (zar_el e1)
    cases hv : fldS idx with
    | none => rw [hv] at f9; cases f9
    | some t =>
      have e2 := hfldS idx t hv
      rw [hv] at f9
      match t, f9, e2 with
      | 0, f9, e2 =>
        cases f9
        have k9 := kk H locs ls hl hP hD hS
        exact vk_getf hx hb a3 hS hown (hts _ e2) (fun _ h9 => h9) hdg k9
      | t + 1, f9, e2 =>
        cases f9
        have k9 := kk H locs ls hl hP hD hS
        rw [if_neg (Nat.succ_ne_zero t), if_neg (Nat.succ_ne_zero t)] at e2
        exact vk_getf hx hb a2 hS hown (hts _ e2) (fun _ h9 => h9) hdg k9
  case iaload =>
    obtain ⟨k, x, r, e9, f9⟩ := zoRI_el hw
    clear hw
    subst e9
    obtain ⟨n, q2, e1, f9⟩ := zoA_el f9
    obtain ⟨g1, f9⟩ := zgd_el f9
    cases f9
    have k9 := kk H locs ls hl hP hD hS
    exact va_ti hx hb (hZ.1 k n q2 (zar_el e1)) hS (zin_in g1) rfl hdg k9
  case baload =>
    obtain ⟨k, x, r, e9, f9⟩ := zoRI_el hw
    clear hw
    subst e9
    obtain ⟨n, q2, e1, f9⟩ := zoA_el f9
    obtain ⟨g1, f9⟩ := zgd_el f9
    cases f9
    have k9 := kk H locs ls hl hP hD hS
    exact va_tb hx hb (hZ.2.1 k n q2 (zar_el e1)) hS (zin_in g1) rfl hdg k9
  case arraylength =>
    obtain ⟨k, r, e9, f9⟩ := zoR1_el hw
    clear hw
    subst e9
    cases h1 : tab k with
    | inl z => rw [h1] at f9; cases f9
    | inr z =>
      obtain ⟨t, n, w⟩ := z
      simp only [h1] at f9
      obtain ⟨g1, f9⟩ := zgd_el f9
      cases f9
      have k9 := kk H locs ls hl hP hD hS
      rcases of_decide_eq_true g1 with rfl | rfl
      · exact va_tlen hx hb (hZ.1 k n w h1) hS rfl hdg k9
      · exact va_tlen hx hb (hZ.2.1 k n w h1) hS rfl hdg k9
  case i2b =>
    obtain ⟨x, r, e9, f9⟩ := zo1_el hw
    clear hw
    subst e9
    cases f9
    have k9 := kk H locs ls hl hP hD hS
    exact lv_i2b hx hb hdg rfl k9
  case invokestatic idx =>
    obtain ⟨g0, f9⟩ := zgd_el hw
    clear hw
    obtain ⟨w1, w2, w3, w4⟩ := hacp idx g0
    match stk, f9 with
    | .inl n :: .inl dp :: .inr (.inr a) :: .inl sp :: .inr (.inr b) :: r, f9 =>
      obtain ⟨g1, f9⟩ := zgd_el f9
      obtain ⟨n1, q1, e1, f9⟩ := zoA_el f9
      have h1 := zar_el e1
      cases h0 : tab b with
      | inl z => rw [h0] at f9; cases f9
      | inr z =>
        obtain ⟨t, n0, w⟩ := z
        simp only [h0] at f9
        obtain ⟨g2, f9⟩ := zgd_el f9
        obtain ⟨g3, f9⟩ := zgd_el f9
        cases f9
        obtain ⟨b1, b2, b3, b4, b5⟩ := of_decide_eq_true g3
        obtain ⟨c1, d1⟩ := znn b1
        obtain ⟨c2, d2⟩ := znn b2
        obtain ⟨c3, d3⟩ := znn b3
        have hsum : ((r.map (zv ad)).map fun v => v.category).sum + (nativeFrameWords "java/lang/System" "arraycopy" 5 + 11) ≤ R.locals := by
          rw [zcat_map]
          have := of_decide_eq_true g1
          omega
        have ha1 : (zW tab cI cZ cQ cG ad N h)[a]? = some (ad a, .inl (cI, n1, .inl (h.1 a))) := by rw [zW_at (hlt h1), zce_i h1]
        have hset : ∀ f : Nat → Int32, (zW tab cI cZ cQ cG ad N h).set a (ad a, .inl (cI, n1, .inl (va_cpy f (h.1 a) sp.toNatClampNeg dp.toNatClampNeg n.toNatClampNeg))) = zW tab cI cZ cQ cG ad N (zsr h a (va_cpy f (h.1 a) sp.toNatClampNeg dp.toNatClampNeg n.toNatClampNeg)) := fun f =>
          zW_set (hlt h1) (by rw [zce_i h1, zsr_row]) (fun k hk => zsr_other hk)
        rcases of_decide_eq_true g2 with rfl | rfl
        · refine va_copyi hx hb (by rw [hml]; exact hl.1.symm) hown (hts _ w1) (hts _ w2) (hts _ w3) (hts _ w4) hK hP hD hS b a 0 0 (ty := .int) (show (zW tab cI cZ cQ cG ad N h)[b]? = some (ad b, .inl (cI, n0, .inl (h.1 b))) by rw [zW_at (hlt h0), zce_i h0]) ha1 rfl rfl rfl c1 c2 c3 (by omega) (by omega) (fun _ _ => rfl) hR.1 hsum hdg (fun H1 locs1 hP1 hD1 hS1 => ?_)
          rw [hset] at hP1 hD1
          exact kk H1 locs1 ls hl hP1 hD1 hS1
        · refine z_copyt hx hb (by rw [hml]; exact hl.1.symm) hown (hts _ w1) (hts _ w2) (hts _ w3) (hts _ w4) hK hP hD hS (hZ.1 b n0 w h0) a 0 ha1 rfl c1 c2 c3 (by omega) (by omega) (fun _ _ => rfl) hR.1 hsum hdg (fun H1 locs1 hP1 hD1 hS1 => ?_)
          rw [hset] at hP1 hD1
          exact kk H1 locs1 ls hl hP1 hD1 hS1
  all_goals cases hw
end ZS6
