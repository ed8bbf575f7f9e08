/-! the making of cells: soundness -/
noncomputable def klen : Instr → Nat
  | .new _ => 3
  | .newarray _ => 2
  | .anewarray _ => 3
  | .multianewarray _ _ => 4
  | i => zlen i
noncomputable def kref : FieldType → Bool
  | .object _ => true
  | .array _ => true
  | _ => false
noncomputable def kft (t : Nat) (ty : FieldType) : Prop := match t with
  | 0 => ty = .int
  | 1 => ty = .boolean
  | 2 => ty = .long
  | _ => kref ty = true
noncomputable abbrev kn0 : Cond := .methodLinkNest RX11 9 yX10_init RX11
noncomputable abbrev kn1 : Cond := .methodLinkNest RX11 34 yX3_init RX11
noncomputable abbrev kn2 : Cond := .methodLinkNest RX11 41 yX1_init RX11
noncomputable abbrev kn3 : Cond := .methodLinkNest RX1 27 yX8_init RX11
noncomputable abbrev kn4 : Cond := .methodLinkNest RX11 48 yX8_init RX11
noncomputable abbrev kn5 : Cond := .methodLinkNest RX0 24 yX8_init RX11
noncomputable abbrev kn6 : Cond := .methodLinkNest RX11 81 yX6_init RX11
noncomputable def kNest : List Cond := [kn0, kn1, kn2, kn3, kn4, kn5, kn6]
noncomputable def kG (U : State) : Prop := (∀ w ∈ kNest, va_Nw w U) ∧ va_AO RX8 U ∧ va_AOA .int U
theorem kAOA {ty : FieldType} {u U : State} (hvm : u.vm.Alike U.vm) (h : va_AOA ty u) : va_AOA ty U := arrayOver_alikeB (s := u) (U := U) hvm h
theorem kG.warm {s U : State} (hW : s.WarmedH U.vm) (h : kG s) : kG U := by
  obtain ⟨h1, h2, h3⟩ := h
  refine ⟨fun w hw => ?_, h2.moved hW.alike, kAOA hW.alike h3⟩
  have hz := h1 w hw
  unfold kNest at hw
  simp only [List.mem_cons, List.not_mem_nil, or_false] at hw
  rcases hw with rfl | rfl | rfl | rfl | rfl | rfl | rfl <;> exact va_Nw.warmM hW hz
theorem kG.same {u U : State} (e : u.vm = U.vm) (h : kG u) : kG U := by
  obtain ⟨h1, h2, h3⟩ := h
  have ha : u.vm.Alike U.vm := by rw [e]; exact Vm.Alike.refl _
  refine ⟨fun w hw => ?_, h2.moved ha, kAOA ha h3⟩
  have hz := h1 w hw
  unfold kNest at hw
  simp only [List.mem_cons, List.not_mem_nil, or_false] at hw
  rcases hw with rfl | rfl | rfl | rfl | rfl | rfl | rfl <;> exact va_Nw.same rfl e hz
theorem kStrAA : "[" ++ (FieldType.array .int).toString = "[[I" := by decide +kernel
theorem kInner (c : ClassId) (K : Nat) : Jvm.Free.Multi.innerC c K (defaultValue .int) = vp_cell c (K, .inl (fun _ => 0)) := by
  show ({ cls := c, slots := Array.replicate K (.int 0), vm := .none } : Cell) = _
  rw [vp_cell_i]
  first | (rw [arrV_new]; done) | (rw [arrV_new]; rfl)
section KSND
variable {kPI : Nat → Nat → Option Instr} {mY : Nat → MethodName} {mC : Nat → ByteArray} {mL : Nat → Nat} {kNw : Nat → Nat → Option Nat} {kFl : Nat → Nat → Option (Nat × Nat)} {kDf : Nat → List (Option zV)} {kTy : Nat → Nat → Nat} {kQa kGa : Nat → Nat → Bool} {kCl : Nat → Nat → Option (Nat × Nat × Bool)}
variable {cI cZ cQ cG : ClassId} {dC : Nat → ClassId} {dI : Nat → Nat → Nat} {ALL : List Cond} {l : Launch}
noncomputable def kOkI (kPI : Nat → Nat → Option Instr) (mC : Nat → ByteArray) (mL : Nat → Nat) : Prop := ∀ mid pc i, kPI mid pc = some i → zok (mL mid) i = true ∧ decode (mC mid) pc = .ok (i, klen i)
noncomputable def kOkN (mY : Nat → MethodName) (kNw : Nat → Nat → Option Nat) (kDf : Nat → List (Option zV)) (ALL : List Cond) : Prop := ∀ mid idx ci, kNw mid idx = some ci → ∃ (C : String) (T : u_T) (Nf : Nat) (ty0 : Nat → FieldType), zCls ALL ci C T Nf ty0 ∧ Cond.classLink (mY mid).cls idx C ∈ ALL ∧ Cond.instantiable C Nf ∈ ALL ∧ Cond.initialized C ∈ ALL ∧ (kDf ci).length = Nf ∧ ∀ (ad : Nat → Nat) (j : Nat), j < Nf → defaultValue (ty0 j) = vp_V ((kDf ci).map (kv ad)) j
noncomputable def kOkF (mY : Nat → MethodName) (kFl : Nat → Nat → Option (Nat × Nat)) (kTy : Nat → Nat → Nat) (ALL : List Cond) : Prop := ∀ mid idx ci fi, kFl mid idx = some (ci, fi) → ∃ (C : String) (T : u_T) (Nf : Nat) (ty0 : Nat → FieldType), zCls ALL ci C T Nf ty0 ∧ fi < Nf ∧ Cond.fieldLink (mY mid).cls idx (T fi).1 (T fi).2.1 (T fi).2.2.1 ∈ ALL ∧ (∃ ty, parseFieldDescriptor (T fi).2.2.1 = some ty ∧ kft (kTy ci fi) ty) ∧ ((T fi).2.2.2 = true → (T fi).1 = (mY mid).cls)
noncomputable def kOkC (mY : Nat → MethodName) (mC : Nat → ByteArray) (mL : Nat → Nat) (kCl : Nat → Nat → Option (Nat × Nat × Bool)) (ALL : List Cond) : Prop := ∀ mid idx callee na nest, kCl mid idx = some (callee, na, nest) →
  (callee = 99 → Cond.methodLink (mY mid).cls idx objectInit ∈ ALL) ∧ (callee ≠ 99 → Cond.code (mY callee) (mC callee) (mL callee) none ∈ ALL ∧ plainName (mY callee).cls = true ∧ mL callee ≤ 21 ∧ (mY callee).name = "<init>" ∧ Cond.initialized (mY callee).cls ∈ ALL ∧ Cond.instanceMethod (mY callee) ∈ ALL ∧ (mY callee).cls ≠ "java/lang/invoke/MethodHandle" ∧ (mY callee).cls ≠ "java/lang/invoke/VarHandle" ∧ (parseMethodDescriptor (mY callee).desc).map (fun d => d.parameters.length) = some (na - 1) ∧ 0 < na ∧
    (nest = false → Cond.methodLink (mY mid).cls idx (mY callee) ∈ ALL) ∧ (nest = true → Cond.methodLinkNest (mY mid).cls idx (mY callee) RX11 ∈ kNest))
noncomputable def kOkA (mY : Nat → MethodName) (kQa kGa : Nat → Nat → Bool) (ALL : List Cond) : Prop := (∀ mid idx, kQa mid idx = true → Cond.classLink (mY mid).cls idx RX8 ∈ ALL) ∧ (∀ mid idx, kGa mid idx = true → Cond.classLink (mY mid).cls idx "[[I" ∈ ALL) ∧ Cond.arrayClass .int ∈ ALL ∧ Cond.arrayClass .boolean ∈ ALL ∧ Cond.instanceMethod objectInit ∈ ALL ∧ Cond.code objectInit ⟨#[0xb1]⟩ 1 none ∈ ALL
noncomputable def kPre (cI cZ cQ cG : ClassId) (dC : Nat → ClassId) (dI : Nat → Nat → Nat) (ad : Nat → Nat) (cs : List kC) (sz : Nat) (U : State) : Prop := U.heap.size = sz ∧ va_P (dC, dI) vwCl (kW cI cZ cQ cG ad cs) U.heap ∧ va_K (dC, dI) vwCl (zTy cI cZ cQ cG) U ∧ va_D (fun _ => True) (kW cI cZ cQ cG ad cs) ∧ kG U
theorem kBlind {av : List Value} {ad : Nat → Nat} {cs : List kC} {sz : Nat} : FrameBlind (va_Pc av (kPre cI cZ cQ cG dC dI ad cs sz)) := fun a U g mk q => by
  obtain ⟨q0, q1, qP, qK, qD, qG⟩ := q
  exact ⟨q0, q1, qP, va_K.moved (u := U) (U := U.calling g mk a) (Vm.Alike.refl U.vm) qK, qD, kG.same (u := U) rfl qG⟩
noncomputable def kB (cI cZ cQ cG : ClassId) (dC : Nat → ClassId) (dI : Nat → Nat → Nat) (ad0 : Nat → Nat) (n0 : Nat) (A : Nat → Prop) (cs' : List kC) (_ : Unit) (t : State) : Prop := ∃ ad' : Nat → Nat, (∀ i, i < n0 → ad' i = ad0 i) ∧ va_P (dC, dI) vwCl (kW cI cZ cQ cG ad' cs') t.heap ∧ va_D A (kW cI cZ cQ cG ad' cs')
noncomputable abbrev kQ (cI cZ cQ cG : ClassId) (dC : Nat → ClassId) (dI : Nat → Nat → Nat) (ad0 : Nat → Nat) (n0 : Nat) (A : Nat → Prop) (cs' : List kC) : Array Value → State → Outcome → State → Prop := va_Qv (fun (_ : Unit) => True) (kB cI cZ cQ cG dC dI ad0 n0 A cs') A
noncomputable def krm (d mc ms : Nat) : Room := { frames := d + 1, cells := mc, slots := ms, locals := 40 * d + 200 }
noncomputable def kWn (l : Launch) (kPI : Nat → Nat → Option Instr) (mY : Nat → MethodName) (mC : Nat → ByteArray) (mL : Nat → Nat) (kNw : Nat → Nat → Option Nat) (kFl : Nat → Nat → Option (Nat × Nat)) (kDf : Nat → List (Option zV)) (kTy : Nat → Nat → Nat) (kQa kGa : Nat → Nat → Bool) (kCl : Nat → Nat → Option (Nat × Nat × Bool)) (cI cZ cQ cG : ClassId) (dC : Nat → ClassId) (dI : Nat → Nat → Nat) (ALL : List Cond) (n : Nat) : Prop :=
  ∀ (d mid pc : Nat) (loc : zL) (stk : List zV) (cs cs' : List kC), krun kPI mL kNw kFl kDf kTy kQa kGa kCl n d mid pc loc stk cs = some cs' →
  ∀ {p : Program} {e : Env} {R : Room} {s : State} {m : MethodId} {args : Array Value} {below : List Frame} {meth : Method} {c : Code} {H : Heap} {locs : List Loc} {ls : Array Slot} (ad0 ad : Nat → Nat) (n0 s0 : Nat) (A : Nat → Prop), p.tables.exec = Jvm.exec → c.code = mC mid → c.maxLocals = mL mid → meth.sig.returnType = none → meth.name = "<init>" → (∀ w ∈ ALL, w.before args s = true) → s.vm.findClass (mY mid).cls = some m.cls → va_K (dC, dI) vwCl (zTy cI cZ cQ cG) s → kG s → meth.locks = false → d + 1 ≤ R.frames ∧ 40 * d + 200 ≤ R.locals → cs'.length - n0 ≤ R.cells ∧ ks cs' - s0 ≤ R.slots → n0 ≤ cs.length → s0 ≤ ks cs → (∀ i, i < n0 → ad i = ad0 i) → (∀ q, s.heap.size ≤ q → A q) →
    lv_has ls (mL mid) (zc ad loc) → va_P (dC, dI) vwCl (kW cI cZ cQ cG ad cs) H → va_D A (kW cI cZ cQ cG ad cs) → va_S A s.heap H locs →
    W p l e R s m args below meth c H locs (cs.length - n0) (ks cs - s0) (MQ below (kQ cI cZ cQ cG dC dI ad0 n0 A cs') args s (cs'.length - n0) (ks cs' - s0) A) (F0 m pc ls (stk.map (zv ad)))
theorem kMet_of {n : Nat} (hW : kWn l kPI mY mC mL kNw kFl kDf kTy kQa kGa kCl cI cZ cQ cG dC dI ALL n) {d mid : Nat} {av : List zV} {cs cs' : List kC} (e : krun kPI mL kNw kFl kDf kTy kQa kGa kCl n d mid 0 (zent 0 av) [] cs = some cs') (hpl : plainName (mY mid).cls = true) (hin : (mY mid).name = "<init>") (hsum : (av.map zcat).sum ≤ mL mid) (ad : Nat → Nat) (sz : Nat) :
    Met l (mY mid) (Cond.code (mY mid) (mC mid) (mL mid) none :: ALL) (krm d (cs'.length - cs.length) (ks cs' - ks cs)) (va_Pc (av.map (zv ad)) (kPre cI cZ cQ cG dC dI ad cs sz)) (kQ cI cZ cQ cG dC dI ad cs.length (zA ad cs.length sz) cs') (cs'.length - cs.length) (ks cs' - ks cs) (zA ad cs.length sz) := by
  refine Met.ofW (cc := mC mid) (maxL := mL mid) (ret := none) hpl rfl ?_
  intro p e9 s m args below meth c s₁ B hml hv
  obtain ⟨rfl, hsz, hP, hK, hD0, hG⟩ := hv
  subst hsz
  have hts := atoms_spec (ws := Cond.code (mY mid) (mC mid) (mL mid) none :: ALL) B.pre
  have hl := lv_entry (av.map (zv ad)) (n := mL mid) (by rw [zlgsl]; exact hsum)
  rw [lg_entry_eq]
  generalize (lg_sl (av.map (zv ad)) ++ List.replicate (mL mid - (lg_sl (av.map (zv ad))).length) Slot.unset).toArray = ls at hl ⊢
  rw [zent_c] at hl
  have k9 := hW d mid 0 (zent 0 av) [] cs cs' e (below := below) (e := e9) (R := krm d (cs'.length - cs.length) (ks cs' - ks cs)) (locs := []) ad ad cs.length (ks cs) (zA ad cs.length s.heap.size) B.exec B.bytes hml B.returns ((name_of_methodNamed B.named B.method).1.trans hin) (fun w hw => hts w (List.mem_cons_of_mem _ hw)) (findClass_of_methodNamed B.named) hK hG B.notSynchronized ⟨Nat.le_refl _, Nat.le_refl _⟩ ⟨Nat.le_refl _, Nat.le_refl _⟩ (Nat.le_refl _) (Nat.le_refl _) (fun _ _ => rfl) (fun q h => Or.inr h) hl hP ⟨hD0.1, fun k q hk => by
      obtain ⟨h1, h2⟩ := kW_lt hk
      exact Or.inl ⟨k, h1, h2⟩⟩ va_S.rf
  rw [Nat.sub_self, Nat.sub_self] at k9
  exact k9
theorem kgood {big : List Cond} {y : MethodName} {cd : ByteArray} {mx : Nat} (hALL : ∀ w ∈ big, goodWord w = true) (hc : Cond.code y cd mx none ∈ big) : GoodIn big (Cond.code y cd mx none :: big) := by
  intro w hw
  have hm : w ∈ big := by
    rcases List.mem_cons.mp hw with h | h
    · rw [h]; exact hc
    · exact h
  exact ⟨hm, good_of_word (hALL w hm)⟩
theorem kRA {s : State} {cA cB : ClassId} {ty : FieldType} {tys : List (ClassId × FieldType)} (hK : va_K (dC, dI) vwCl tys s) (hK1 : va_K (dC, dI) vwCl (tys ++ [(cA, ty)]) s) {k : Nat} (h : tys[k]? = some (cB, ty)) (hf : ∀ a b : ClassId, va_RA s a ty → va_RA s b ty → a = b) : cA = cB := by
  refine hf _ _ (hK1.2 tys.length (cA, ty) ?_).2 (hK.2 k (cB, ty) h).2
  rw [List.getElem?_append_right (Nat.le_refl _), Nat.sub_self]
  rfl
set_option maxHeartbeats 4000000 in
theorem kst_sound (hI : kOkI kPI mC mL) (hN : kOkN mY kNw kDf ALL) (hF : kOkF mY kFl kTy ALL) (hAr : kOkA mY kQa kGa ALL) {mid pc : Nat} {i : Instr} {loc : zL} {stk : List zV} {cs : List kC} {q : kN} (hi : kPI mid pc = some i) (h : kst kNw kFl kDf kTy kQa kGa mid i pc loc stk cs = some q)
    {p : Program} {e : Env} {R : Room} {s : State} {m : MethodId} {args : Array Value} {below : List Frame} {meth : Method} {c : Code} {H : Heap} {locs : List Loc} {ls : Array Slot} {Q : State → Prop} {ad : Nat → Nat} {n0 s0 : Nat} {A : Nat → Prop} (hx : p.tables.exec = Jvm.exec) (hb : c.code = mC mid) (hin : meth.name = "<init>") (hts : ∀ w ∈ ALL, w.before args s = true) (hown : s.vm.findClass (mY mid).cls = some m.cls) (hK : va_K (dC, dI) vwCl (zTy cI cZ cQ cG) s) (hG : kG s) (hR : q.2.2.2.length - n0 ≤ R.cells ∧ ks q.2.2.2 - s0 ≤ R.slots) (hn : n0 ≤ cs.length) (hs0 : s0 ≤ ks cs) (hA : ∀ q, s.heap.size ≤ q → A q)
    (hl : lv_has ls (mL mid) (zc ad loc)) (hP : va_P (dC, dI) vwCl (kW cI cZ cQ cG ad cs) H) (hD : va_D A (kW cI cZ cQ cG ad cs)) (hS : va_S A s.heap H locs)
    (kk : ∀ (ad' : Nat → Nat) (H' : Heap) (locs' : List Loc) (ls' : Array Slot), (∀ i, i < cs.length → ad' i = ad i) → lv_has ls' (mL mid) (zc ad' q.2.1) → va_P (dC, dI) vwCl (kW cI cZ cQ cG ad' q.2.2.2) H' → va_D A (kW cI cZ cQ cG ad' q.2.2.2) → va_S A s.heap H' locs' → W p l e R s m args below meth c H' locs' (q.2.2.2.length - n0) (ks q.2.2.2 - s0) Q (F0 m q.1 ls' (q.2.2.1.map (zv ad')))) :
    W p l e R s m args below meth c H locs (cs.length - n0) (ks cs - s0) Q (F0 m pc ls (stk.map (zv ad))) := by
  obtain ⟨hok, hdec⟩ := hI mid pc i hi
  -- one new cell
  have one : ∀ {pc' : Nat} {st' : List zV} {d : kC}, knew pc' loc st' cs [d] = some q → ∀ (q9 : Nat) (H1 : Heap) (x9 : va_E), x9 = kce cI cZ cQ cG (kext ad cs.length (fun _ => q9)) d → va_P (dC, dI) vwCl (kW cI cZ cQ cG ad cs ++ [(q9, x9)]) H1 → va_D A (kW cI cZ cQ cG ad cs ++ [(q9, x9)]) → va_S A s.heap H1 locs → W p l e R s m args below meth c H1 locs (cs.length - n0 + 1) (ks cs - s0 + ksz d) Q (F0 m pc' ls (.ref q9 :: st'.map (zv ad))) := by
    intro pc' st' d hk q9 H1 x9 hx9 hP1 hD1 hS1
    obtain ⟨⟨w1, w2, w3⟩, rfl⟩ := knew_el hk
    have eW : kW cI cZ cQ cG (kext ad cs.length (fun _ => q9)) (cs ++ [d]) = kW cI cZ cQ cG ad cs ++ [(q9, x9)] := by
      rw [kW_app w1, hx9]
      rfl
    have el := kloc_e (ad := ad) (ad' := kext ad cs.length (fun _ => q9)) kext_lt w2
    have es := kstk_e (ad := ad) (ad' := kext ad cs.length (fun _ => q9)) kext_lt w3
    have k9 := kk (kext ad cs.length (fun _ => q9)) H1 locs ls kext_lt (by show lv_has ls _ (zc _ loc); rw [el]; exact hl) (by show va_P _ _ (kW _ _ _ _ _ (cs ++ [d])) _; rw [eW]; exact hP1) (by show va_D _ (kW _ _ _ _ _ (cs ++ [d])); rw [eW]; exact hD1) hS1
    have e0 : kext ad cs.length (fun _ => q9) cs.length = q9 := by
      unfold kext
      rw [if_neg (Nat.lt_irrefl _)]
    have e1 : (q9 :: [] : List Nat) = [q9] := rfl
    refine W.widen (k := (cs ++ [d]).length - n0) (n := ks (cs ++ [d]) - s0) ?_ ?_ ?_
    · rw [List.length_append]
      show _ ≤ cs.length + 1 - n0
      omega
    · rw [ks_app]
      show _ ≤ ks cs + (ksz d + 0) - s0
      omega
    · have e2 : ((.inr (.inr cs.length) :: st' : List zV).map (zv (kext ad cs.length (fun _ => q9)))) = .ref q9 :: st'.map (zv ad) := by
        rw [List.map_cons, es]
        show Value.ref (kext ad cs.length (fun _ => q9) cs.length) :: _ = _
        rw [e0]
      have k8 : W p l e R s m args below meth c H1 locs ((cs ++ [d]).length - n0) (ks (cs ++ [d]) - s0) Q (F0 m pc' ls ((.inr (.inr cs.length) :: st' : List zV).map (zv (kext ad cs.length (fun _ => q9))))) := k9
      rw [e2] at k8
      exact k8
  have room1 : ∀ {pc' : Nat} {st' : List zV} {d : kC}, knew pc' loc st' cs [d] = some q → cs.length - n0 + 1 ≤ R.cells ∧ ks cs - s0 + ksz d ≤ R.slots := by
    intro pc' st' d hk
    obtain ⟨-, rfl⟩ := knew_el hk
    have h1 : (cs ++ [d]).length - n0 ≤ R.cells := hR.1
    have h2 : ks (cs ++ [d]) - s0 ≤ R.slots := hR.2
    rw [List.length_append] at h1
    rw [ks_app] at h2
    have h1 : cs.length + 1 - n0 ≤ R.cells := h1
    have h2 : ks cs + (ksz d + 0) - s0 ≤ R.slots := h2
    omega
  unfold kst at h
  split at h
  case h_1 idx =>
    cases hw : kNw mid idx with
    | none => rw [hw] at h; cases h
    | some ci =>
      rw [hw] at h
      obtain ⟨C, T, Nf, ty0, ⟨c1, c2, c3, -⟩, c5, c6, c7, c8, c9⟩ := hN mid idx ci hw
      have rm := room1 h
      have es : ksz (.inl (ci, kDf ci)) = Nf := c8
      rw [es] at rm
      refine va_new (ci := ci) (fs := (kDf ci).map (kv ad)) hx hb hts c2 ty0 c3 hown (hts _ c5) (hts _ c6) (hts _ c7) hK hP hD hS hA c1 (fun j hj => c9 ad j hj) rm.1 rm.2 hdec (fun q9 H1 hP1 hD1 hS1 => ?_)
      have k9 := one h q9 H1 (.inr (ci, (kDf ci).map (kv ad))) ?_ hP1 hD1 hS1
      · rw [es] at k9
        exact k9
      · obtain ⟨⟨w1, -, -⟩, -⟩ := knew_el h
        show (Sum.inr (ci, (kDf ci).map (kv ad)) : va_E) = .inr (ci, (kDf ci).map (kv _))
        refine congrArg (fun z => (Sum.inr (ci, z) : va_E)) ?_
        apply List.ext_getElem?
        intro j
        by_cases hj : j < Nf
        · have a1 := c9 ad j hj
          have a2 := c9 (kext ad cs.length (fun _ => q9)) j hj
          have b : ∀ ad9 : Nat → Nat, ((kDf ci).map (kv ad9))[j]? = some (vp_V ((kDf ci).map (kv ad9)) j) := fun ad9 => by
            unfold vp_V
            rw [List.getD_eq_getElem?_getD, List.getElem?_eq_getElem (by rw [List.length_map]; omega)]
            rfl
          rw [b, b, ← a1, ← a2]
        · rw [List.getElem?_eq_none (by rw [List.length_map]; omega), List.getElem?_eq_none (by rw [List.length_map]; omega)]
  case h_2 t =>
    split at h
    case h_1 x r b hb9 =>
      split at h
      case isFalse => cases h
      case isTrue hsm =>
        unfold ksm at hsm
        rw [Bool.and_eq_true] at hsm
        have h1 := of_decide_eq_true hsm.1
        have h2 := of_decide_eq_true hsm.2
        have rm := room1 h
        cases t <;> cases hb9
        case boolean =>
          refine va_newa (atype := .boolean) (ty := .boolean) (a0 := (x.toNatClampNeg, .inl (fun _ => 0))) hx hb (hts _ hAr.2.2.2.1) rfl hK hP hD hS hA (fun _ => rfl) h1 rfl (by show _ * 1 ≤ _; omega) rm.1 rm.2 hdec (fun q9 cA H1 hK1 hP1 hD1 hS1 => ?_)
          have e9 : cA = cZ := kRA hK hK1 (k := 1) rfl (fun a b ha hb => Option.some.inj (ha.symm.trans hb))
          subst e9
          exact one h q9 H1 _ rfl hP1 hD1 hS1
        case int =>
          refine va_newa (atype := .int) (ty := .int) (a0 := (x.toNatClampNeg, .inl (fun _ => 0))) hx hb (hts _ hAr.2.2.1) rfl hK hP hD hS hA (fun _ => rfl) h1 rfl (by show _ * 4 ≤ _; omega) rm.1 rm.2 hdec (fun q9 cA H1 hK1 hP1 hD1 hS1 => ?_)
          have e9 : cA = cI := kRA hK hK1 (k := 0) rfl (fun a b ha hb => Option.some.inj (ha.symm.trans hb))
          subst e9
          exact one h q9 H1 _ rfl hP1 hD1 hS1
    case h_2 => cases h
  case h_3 idx =>
    split at h
    case h_1 x r =>
      split at h
      case isFalse => cases h
      case isTrue hsm =>
        unfold ksm at hsm
        simp only [Bool.and_eq_true] at hsm
        have h1 := of_decide_eq_true hsm.1.1
        have h2 := of_decide_eq_true hsm.1.2
        have rm := room1 h
        refine va_newq hx hb hown (hts _ (hAr.1 mid idx hsm.2)) hG.2.1 hK hP hD hS hA h1 rfl (by omega) rm.1 rm.2 hdec (fun q9 cA H1 hK1 hP1 hD1 hS1 => ?_)
        have e9 : cA = cQ := kRA hK hK1 (k := 2) rfl (fun a b ha hb => by
          obtain ⟨_, _, _, _, _, h1⟩ := ha
          obtain ⟨_, _, _, _, _, h2⟩ := hb
          exact Option.some.inj (h1.symm.trans h2))
        subst e9
        refine one h q9 H1 _ ?_ hP1 hD1 hS1
        show (Sum.inl (cA, x.toNatClampNeg, .inr (.inr (.inr (.inr (fun _ => none))))) : va_E) = .inl (cA, x.toNatClampNeg, .inr (.inr (.inr (.inr (fun i : Nat => (((List.replicate x.toNatClampNeg (none : Option Nat))[i]?).join).map (kext ad cs.length (fun _ => q9)))))))
        have ef : (fun i : Nat => (((List.replicate x.toNatClampNeg (none : Option Nat))[i]?).join).map (kext ad cs.length (fun _ => q9))) = fun _ => none := by
          funext i
          rw [List.getElem?_replicate]
          split <;> rfl
        rw [ef]
    case h_2 => cases h
  case h_4 idx dim =>
    split at h
    case h_1 y x r =>
      split at h
      case isFalse => cases h
      case isTrue hsm =>
        unfold ksm at hsm
        simp only [Bool.and_eq_true, decide_eq_true_eq] at hsm
        obtain ⟨⟨a1, a2⟩, ⟨b1, b2⟩, g1, rfl⟩ := hsm
        obtain ⟨⟨w1, w2, w3⟩, rfl⟩ := knew_el h
        have hr1 : (cs ++ (.inr (3, x.toNatClampNeg, (List.range x.toNatClampNeg).map (fun i => some (cs.length + 1 + i))) :: List.replicate x.toNatClampNeg (.inr (0, y.toNatClampNeg, [])) : List kC)).length - n0 ≤ R.cells := hR.1
        have hr2 : ks (cs ++ (.inr (3, x.toNatClampNeg, (List.range x.toNatClampNeg).map (fun i => some (cs.length + 1 + i))) :: List.replicate x.toNatClampNeg (.inr (0, y.toNatClampNeg, [])) : List kC)) - s0 ≤ R.slots := hR.2
        have eL : (cs ++ (.inr (3, x.toNatClampNeg, (List.range x.toNatClampNeg).map (fun i => some (cs.length + 1 + i))) :: List.replicate x.toNatClampNeg (.inr (0, y.toNatClampNeg, [])) : List kC)).length = cs.length + (x.toNatClampNeg + 1) := by
          rw [List.length_append, List.length_cons, List.length_replicate]
        have eS : ks (cs ++ (.inr (3, x.toNatClampNeg, (List.range x.toNatClampNeg).map (fun i => some (cs.length + 1 + i))) :: List.replicate x.toNatClampNeg (.inr (0, y.toNatClampNeg, [])) : List kC)) = ks cs + (x.toNatClampNeg + x.toNatClampNeg * y.toNatClampNeg) := by
          rw [ks_app]
          refine congrArg (fun z => ks cs + z) ?_
          unfold ks
          rw [List.map_cons, List.sum_cons, List.map_replicate, List.sum_replicate_nat]
          rfl
        rw [eL] at hr1
        rw [eS] at hr2
        refine va_mna (X := kW cI cZ cQ cG ad cs) (L := []) (f := fun _ => .inl (cI, 0, .inl (fun _ => 0))) (z := (y.toNatClampNeg, .inl (fun _ => 0))) (ty := .int) hx hb hown (by rw [kStrAA]; exact hts _ (hAr.2.1 mid idx g1)) hG.2.2 (hts _ hAr.2.2.1) (hK.2 0 (cI, .int) rfl).2 hK (by show va_P _ _ (_ ++ []) _; rw [List.append_nil]; exact hP) (by show va_D _ (_ ++ []); rw [List.append_nil]; exact hD) hS hA a1 b1 rfl rfl (by omega) (by show _ * 4 ≤ _; omega) (by omega) rfl rfl (by omega) (by omega) (fun c => kInner c y.toNatClampNeg) hdec (fun q9 r9 cA H1 hr9 _ hK1 hP1 hD1 hS1 => ?_)
        have e9 : cA = cG := kRA hK hK1 (k := 3) rfl (fun a b ha hb => Option.some.inj (ha.symm.trans hb))
        subst e9
        obtain ⟨f9, hf9⟩ : ∃ f9 : Nat → Nat, f9 = fun i => if i = 0 then q9 else r9 (i - 1) := ⟨_, rfl⟩
        have eW : kW cI cZ cQ cA (kext ad cs.length f9) (cs ++ (.inr (3, x.toNatClampNeg, (List.range x.toNatClampNeg).map (fun i => some (cs.length + 1 + i))) :: List.replicate x.toNatClampNeg (.inr (0, y.toNatClampNeg, [])) : List kC)) = (kW cI cZ cQ cA ad cs ++ [(q9, .inl (cA, x.toNatClampNeg, .inr (.inr (.inr (.inr (fun i => if i < x.toNatClampNeg then some (r9 i) else none))))))]) ++ va_pl ([] ++ (List.range x.toNatClampNeg).map r9) (vr_up (fun _ => .inl (cI, 0, .inl (fun _ => 0))) ((List.range x.toNatClampNeg).map r9) (.inl (cI, y.toNatClampNeg, .inl (fun _ => 0)))) := by
          rw [kW_app w1, List.append_assoc, List.mapIdx_cons]
          refine congrArg (fun z => kW cI cZ cQ cA ad cs ++ z) ?_
          show (f9 0, (Sum.inl (cA, x.toNatClampNeg, .inr (.inr (.inr (.inr (fun i : Nat => ((((List.range x.toNatClampNeg).map (fun i => some (cs.length + 1 + i)))[i]?).join).map (kext ad cs.length f9)))))) : va_E)) :: _ = (q9, _) :: _
          have e1 : f9 0 = q9 := by rw [hf9]; rfl
          have e2 : (fun i : Nat => ((((List.range x.toNatClampNeg).map (fun i => some (cs.length + 1 + i)))[i]?).join).map (kext ad cs.length f9)) = fun i => if i < x.toNatClampNeg then some (r9 i) else none := by
            funext i
            rw [List.getElem?_map]
            by_cases hi : i < x.toNatClampNeg
            · rw [List.getElem?_range hi, if_pos hi]
              show some (kext ad cs.length f9 (cs.length + 1 + i)) = some (r9 i)
              rw [show cs.length + 1 + i = (i + 1) + cs.length by omega, kext_ge, hf9]
              show some (if i + 1 = 0 then q9 else r9 (i + 1 - 1)) = _
              rw [if_neg (by omega), Nat.add_sub_cancel]
            · rw [List.getElem?_eq_none (by rw [List.length_range]; omega), if_neg hi]
              rfl
          rw [e1, e2]
          refine congrArg (fun z => _ :: z) ?_
          apply List.ext_getElem?
          intro k
          unfold va_pl
          rw [List.getElem?_mapIdx, List.getElem?_replicate]
          simp only [List.append_eq, List.nil_append]
          rw [List.map_map, List.getElem?_map]
          by_cases hk : k < x.toNatClampNeg
          · rw [if_pos hk, List.getElem?_range hk]
            show some (f9 (k + 1), (Sum.inl (cI, y.toNatClampNeg, .inl (fun _ => 0)) : va_E)) = some (r9 k, vr_up _ _ _ (r9 k))
            have e3 : f9 (k + 1) = r9 k := by
              rw [hf9]
              show (if k + 1 = 0 then q9 else r9 (k + 1 - 1)) = _
              rw [if_neg (by omega), Nat.add_sub_cancel]
            have e4 : vr_up (fun _ => (Sum.inl (cI, 0, .inl (fun _ => 0)) : va_E)) ((List.range x.toNatClampNeg).map r9) (.inl (cI, y.toNatClampNeg, .inl (fun _ => 0))) (r9 k) = .inl (cI, y.toNatClampNeg, .inl (fun _ => 0)) := by
              unfold vr_up
              rw [if_pos (List.mem_map.mpr ⟨k, List.mem_range.mpr hk, rfl⟩)]
            rw [e3, e4]
          · rw [if_neg hk, List.getElem?_eq_none (by rw [List.length_range]; omega)]
            rfl
        have el := kloc_e (ad := ad) (ad' := kext ad cs.length f9) kext_lt w2
        have es := kstk_e (ad := ad) (ad' := kext ad cs.length f9) kext_lt w3
        have k9 := kk (kext ad cs.length f9) H1 locs ls kext_lt (by show lv_has ls _ (zc _ loc); rw [el]; exact hl) (by show va_P _ _ (kW _ _ _ _ _ (cs ++ _)) _; rw [eW]; exact hP1) (by show va_D _ (kW _ _ _ _ _ (cs ++ _)); rw [eW]; exact hD1) hS1
        refine W.widen (k := (cs ++ (.inr (3, x.toNatClampNeg, (List.range x.toNatClampNeg).map (fun i => some (cs.length + 1 + i))) :: List.replicate x.toNatClampNeg (.inr (0, y.toNatClampNeg, [])) : List kC)).length - n0) (n := ks (cs ++ (.inr (3, x.toNatClampNeg, (List.range x.toNatClampNeg).map (fun i => some (cs.length + 1 + i))) :: List.replicate x.toNatClampNeg (.inr (0, y.toNatClampNeg, [])) : List kC)) - s0) (by rw [eL]; omega) (by rw [eS]; omega) ?_
        have e2 : ((.inr (.inr cs.length) :: r : List zV).map (zv (kext ad cs.length f9))) = .ref q9 :: r.map (zv ad) := by
          rw [List.map_cons, es]
          show Value.ref (kext ad cs.length f9 cs.length) :: _ = _
          have : kext ad cs.length f9 (0 + cs.length) = f9 0 := kext_ge 0
          rw [Nat.zero_add] at this
          rw [this, hf9]
          rfl
        have k8 : W p l e R s m args below meth c H1 locs _ _ Q (F0 m (pc + 4) ls ((.inr (.inr cs.length) :: r : List zV).map (zv (kext ad cs.length f9)))) := k9
        rw [e2] at k8
        exact k8
    case h_2 => cases h
  case h_5 idx =>
    split at h
    case h_1 k r =>
      split at h
      case h_1 ci fi cj fs hf hk =>
        split at h
        case isFalse => cases h
        case isTrue he =>
          subst he
          split at h
          case h_1 v hv =>
            cases h
            obtain ⟨C, T, Nf, ty0, ⟨c1, c2, -, -⟩, c5, c6, -, -⟩ := hF mid idx ci fi hf
            have k9 := kk ad H locs ls (fun _ _ => rfl) hl hP hD hS
            exact va_get (D := (dC, dI)) (ci := ci) (v := zv ad v) hx hb hts c2 hown hK hP k (kW_at hk) c1 fi c5 (hts _ c6) (fun _ h9 => h9) (by rw [List.getElem?_map, hv]; rfl) hdec k9
          case h_2 => cases h
      case h_2 => cases h
    case h_2 => cases h
  case h_6 idx =>
    split at h
    case h_1 v k r =>
      split at h
      case h_1 ci fi cj fs hf hk =>
        split at h
        case isFalse => cases h
        case isTrue he =>
          cases h
          simp only [Bool.and_eq_true, decide_eq_true_eq] at he
          obtain ⟨rfl, hlt, hfit⟩ := he
          obtain ⟨C, T, Nf, ty0, ⟨c1, c2, c3, c4⟩, c5, c6, ⟨ty, c7, c8⟩, c9⟩ := hF mid idx ci fi hf
          have hnar : narrow ty (zv ad v) = zv ad v ∧ fits ty (zv ad v) = true := by
            unfold kfit at hfit
            split at hfit
            case h_1 ht => rw [ht] at c8; cases (show ty = .int from c8); exact ⟨rfl, rfl⟩
            case h_2 x ht =>
              rw [ht] at c8
              cases (show ty = .boolean from c8)
              rw [of_decide_eq_true hfit]
              exact ⟨rfl, rfl⟩
            case h_3 ht => rw [ht] at c8; cases (show ty = .long from c8); exact ⟨rfl, rfl⟩
            case h_4 z ht =>
              rw [ht] at c8
              have c8 : kref ty = true := c8
              cases ty <;> first | exact ⟨rfl, rfl⟩ | cases c8
            case h_5 => cases hfit
          have el : fi < (fs.map (kv ad)).length := by rw [List.length_map]; exact hlt
          have ew : (kW cI cZ cQ cG ad cs).set k (ad k, .inr (ci, (fs.map (kv ad)).set fi (zv ad v))) = kW cI cZ cQ cG ad (cs.set k (.inl (ci, fs.set fi (some v)))) := by
            rw [← kW_set]
            show _ = List.set _ k (ad k, Sum.inr (ci, (fs.set fi (some v)).map (kv ad)))
            rw [List.map_set]
            rfl
          have fin : ∀ (H1 : Heap) (locs1 : List Loc), va_P (dC, dI) vwCl ((kW cI cZ cQ cG ad cs).set k (ad k, .inr (ci, (fs.map (kv ad)).set fi (zv ad v)))) H1 → va_D A ((kW cI cZ cQ cG ad cs).set k (ad k, .inr (ci, (fs.map (kv ad)).set fi (zv ad v)))) → va_S A s.heap H1 locs1 → W p l e R s m args below meth c H1 locs1 (cs.length - n0) (ks cs - s0) Q (F0 m (pc + 3) ls (r.map (zv ad))) := by
            intro H1 locs1 hP1 hD1 hS1
            rw [ew] at hP1 hD1
            have k9 := kk ad H1 locs1 ls (fun _ _ => rfl) hl hP1 hD1 hS1
            have e1 : (cs.set k (.inl (ci, fs.set fi (some v)) : kC)).length = cs.length := List.length_set
            have e2 : ks (cs.set k (.inl (ci, fs.set fi (some v)) : kC)) = ks cs := ks_set _ _ _ _ hk (by show (fs.set fi (some v)).length = fs.length; exact List.length_set)
            have k8 : W p l e R s m args below meth c H1 locs1 ((cs.set k (.inl (ci, fs.set fi (some v)) : kC)).length - n0) (ks (cs.set k (.inl (ci, fs.set fi (some v)) : kC)) - s0) Q (F0 m (pc + 3) ls (r.map (zv ad))) := k9
            rw [e1, e2] at k8
            exact k8
          cases hfin : (T fi).2.2.2 with
          | true => exact va_putF (D := (dC, dI)) (ci := ci) (v := zv ad v) (ty := ty) hx hb hts c2 ty0 c3 c4 hown hK hP hD hS k (kW_at hk) c1 fi c5 (hts _ c6) (fun _ h9 => h9) hfin hin (c9 hfin) c7 hnar.1 hnar.2 el hdec fin
          | false => exact va_put (D := (dC, dI)) (ci := ci) (v := zv ad v) (ty := ty) hx hb hts c2 ty0 c3 c4 hown hK hP hD hS k (kW_at hk) c1 fi c5 (hts _ c6) (fun _ h9 => h9) hfin c7 hnar.1 hnar.2 el hdec fin
      case h_2 => cases h
    case h_2 => cases h
  case h_7 =>
    split at h
    case h_1 v x a r =>
      split at h
      case h_1 n rr vs ha hv =>
        split at h
        case isFalse => cases h
        case isTrue he =>
          cases h
          simp only [Bool.and_eq_true, decide_eq_true_eq] at he
          obtain ⟨g1, g2, g3⟩ := he
          refine va_astq (cl := vwCl) (i := x) (r := (RX8, TX8, 10)) hx hb hK hP hD hS a 2 v 8 (kW_at ha) rfl (kW_at hv) rfl (fun q => by
            rcases q with q | q
            · exact g1 q
            · omega) hdec (fun H1 locs1 hP1 hD1 hS1 => ?_)
          have ef : va_up (fun i : Nat => ((rr[i]?).join).map ad) x.toNatClampNeg (some (ad v)) = fun i : Nat => (((rr.set x.toNatClampNeg (some v))[i]?).join).map ad := by
            funext i
            unfold va_up
            rw [List.getElem?_set]
            by_cases hi : x.toNatClampNeg = i
            · subst hi
              rw [if_pos rfl, if_pos rfl, if_pos (by omega)]
              rfl
            · rw [if_neg (fun e => hi e.symm), if_neg hi]
          have ew : (kW cI cZ cQ cG ad cs).set a (ad a, .inl (cQ, n, .inr (.inr (.inr (.inr (va_up (fun i : Nat => ((rr[i]?).join).map ad) x.toNatClampNeg (some (ad v)))))))) = kW cI cZ cQ cG ad (cs.set a (.inr (2, n, rr.set x.toNatClampNeg (some v)))) := by
            rw [← kW_set, ef]
            rfl
          rw [ew] at hP1 hD1
          have k9 := kk ad H1 locs1 ls (fun _ _ => rfl) hl hP1 hD1 hS1
          have e1 : (cs.set a (.inr (2, n, rr.set x.toNatClampNeg (some v)) : kC)).length = cs.length := List.length_set
          have e2 : ks (cs.set a (.inr (2, n, rr.set x.toNatClampNeg (some v)) : kC)) = ks cs := ks_set _ _ _ _ ha rfl
          have k8 : W p l e R s m args below meth c H1 locs1 ((cs.set a (.inr (2, n, rr.set x.toNatClampNeg (some v)) : kC)).length - n0) (ks (cs.set a (.inr (2, n, rr.set x.toNatClampNeg (some v)) : kC)) - s0) Q (F0 m (pc + 1) ls (r.map (zv ad))) := k9
          rw [e1, e2] at k8
          exact k8
      case h_2 => cases h
    case h_2 => cases h
  case h_8 =>
    cases hz : zf1 i pc loc stk k0 with
    | none => rw [hz] at h; cases h
    | some z =>
      rw [hz] at h
      cases h
      have hkl : decode (mC mid) pc = .ok (i, zlen i) := by
        have : klen i = zlen i := by
          unfold klen
          split <;> first | rfl | (cases hz; done)
        rw [← this]; exact hdec
      exact zst1_sound hx hb hkl hok (zf1_h hz) hl (zf1_st hz (fun a b c _ => a = z.1 ∧ b = z.2.1 ∧ c = z.2.2.1) ⟨rfl, rfl, rfl⟩) (fun pc' loc' stk' ls' hl' hk => by
        obtain ⟨rfl, rfl, rfl⟩ := hk
        exact kk ad H locs ls' (fun _ _ => rfl) hl' hP hD hS)
end KSND
