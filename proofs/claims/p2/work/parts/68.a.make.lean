/-! THE CONSTRUCTORS: a machine that makes cells -/
/-- a cell in the making: its class and fields (none: null), or a row of ints (0), of booleans (1), of states (2), of rows (3) -/
abbrev kC : Type := (Nat × List (Option zV)) ⊕ (Nat × Nat × List (Option Nat))
noncomputable def kv (ad : Nat → Nat) : Option zV → Value
  | none => .null
  | some v => zv ad v
noncomputable def kce (cI cZ cQ cG : ClassId) (ad : Nat → Nat) : kC → va_E
  | .inl (ci, fs) => .inr (ci, fs.map (kv ad))
  | .inr (0, n, _) => .inl (cI, n, .inl (fun _ => 0))
  | .inr (1, n, _) => .inl (cZ, n, .inl (fun _ => 0))
  | .inr (2, n, r) => .inl (cQ, n, .inr (.inr (.inr (.inr (fun i => ((r[i]?).join).map ad)))))
  | .inr (_, n, r) => .inl (cG, n, .inr (.inr (.inr (.inr (fun i => ((r[i]?).join).map ad)))))
noncomputable def kW (cI cZ cQ cG : ClassId) (ad : Nat → Nat) (cs : List kC) : va_W := cs.mapIdx (fun i c => (ad i, kce cI cZ cQ cG ad c))
noncomputable def kvb (n : Nat) : zV → Bool
  | .inr (.inr k) => decide (k < n)
  | _ => true
noncomputable def kob (n : Nat) : Option zV → Bool
  | none => true
  | some v => kvb n v
noncomputable def knb (n : Nat) : Option Nat → Bool
  | none => true
  | some k => decide (k < n)
noncomputable def kcb (n : Nat) : kC → Bool
  | .inl (_, fs) => fs.all (kob n)
  | .inr (_, _, r) => r.all (knb n)
noncomputable def kwl (n : Nat) (loc : zL) (stk : List zV) : Bool := loc.all (fun q => kvb n q.2) && stk.all (kvb n)
noncomputable def kwc (cs : List kC) : Bool := cs.all (kcb cs.length)
noncomputable def ksz : kC → Nat
  | .inl (_, fs) => fs.length
  | .inr (_, n, _) => n
noncomputable def ks (cs : List kC) : Nat := (cs.map ksz).sum
theorem ks_app (a b : List kC) : ks (a ++ b) = ks a + ks b := by
  unfold ks
  rw [List.map_append, List.sum_append]
theorem ks_set : ∀ (cs : List kC) (k : Nat) (c c' : kC), cs[k]? = some c → ksz c' = ksz c → ks (cs.set k c') = ks cs
  | [], k, c, c', h, _ => by simp at h
  | d :: cs, 0, c, c', h, e => by
    have : d = c := by simpa using h
    subst this
    show ks (c' :: cs) = ks (d :: cs)
    unfold ks
    rw [List.map_cons, List.map_cons, List.sum_cons, List.sum_cons, e]
  | d :: cs, k + 1, c, c', h, e => by
    have ih := ks_set cs k c c' (by simpa using h) e
    show ks (d :: cs.set k c') = ks (d :: cs)
    unfold ks at ih ⊢
    rw [List.map_cons, List.map_cons, List.sum_cons, List.sum_cons, ih]
section KX
variable {cI cZ cQ cG : ClassId} {ad ad' : Nat → Nat} {n : Nat}
theorem kvb_e (h : ∀ i, i < n → ad' i = ad i) {v : zV} (hv : kvb n v = true) : zv ad' v = zv ad v := by
  match v, hv with
  | .inl x, _ => rfl
  | .inr (.inl x), _ => rfl
  | .inr (.inr k), hv =>
    show Value.ref (ad' k) = Value.ref (ad k)
    rw [h k (of_decide_eq_true hv)]
theorem kob_e (h : ∀ i, i < n → ad' i = ad i) {v : Option zV} (hv : kob n v = true) : kv ad' v = kv ad v := by
  match v, hv with
  | none, _ => rfl
  | some v, hv => exact kvb_e h hv
theorem kcb_e (h : ∀ i, i < n → ad' i = ad i) {c : kC} (hc : kcb n c = true) : kce cI cZ cQ cG ad' c = kce cI cZ cQ cG ad c := by
  have er : ∀ r : List (Option Nat), r.all (knb n) = true → (fun i : Nat => ((r[i]?).join).map ad') = (fun i : Nat => ((r[i]?).join).map ad) := fun r hr => by
    funext i
    cases hi : r[i]? with
    | none => rfl
    | some o =>
      cases o with
      | none => rfl
      | some k =>
        have := (List.all_eq_true.mp hr) (some k) (List.mem_of_getElem? hi)
        show some (ad' k) = some (ad k)
        rw [h k (of_decide_eq_true this)]
  match c, hc with
  | .inl (ci, fs), hc =>
    show (Sum.inr (ci, fs.map (kv ad')) : va_E) = .inr (ci, fs.map (kv ad))
    rw [List.map_congr_left (fun v hv => kob_e h ((List.all_eq_true.mp hc) v hv))]
  | .inr (0, m, r), hc => rfl
  | .inr (1, m, r), hc => rfl
  | .inr (2, m, r), hc =>
    show (Sum.inl (cQ, m, .inr (.inr (.inr (.inr (fun i : Nat => ((r[i]?).join).map ad'))))) : va_E) = .inl (cQ, m, .inr (.inr (.inr (.inr (fun i : Nat => ((r[i]?).join).map ad)))))
    rw [er r hc]
  | .inr (t + 3, m, r), hc =>
    show (Sum.inl (cG, m, .inr (.inr (.inr (.inr (fun i : Nat => ((r[i]?).join).map ad'))))) : va_E) = .inl (cG, m, .inr (.inr (.inr (.inr (fun i : Nat => ((r[i]?).join).map ad)))))
    rw [er r hc]
theorem kW_get {cs : List kC} {k : Nat} : (kW cI cZ cQ cG ad cs)[k]? = (cs[k]?).map (fun c => (ad k, kce cI cZ cQ cG ad c)) := by
  unfold kW
  rw [List.getElem?_mapIdx]
theorem kW_at {cs : List kC} {k : Nat} {c : kC} (h : cs[k]? = some c) : (kW cI cZ cQ cG ad cs)[k]? = some (ad k, kce cI cZ cQ cG ad c) := by
  rw [kW_get, h]
  rfl
theorem kW_lt {cs : List kC} {k : Nat} {q : Nat × va_E} (h : (kW cI cZ cQ cG ad cs)[k]? = some q) : k < cs.length ∧ q.1 = ad k := by
  rw [kW_get] at h
  cases hk : cs[k]? with
  | none => rw [hk] at h; cases h
  | some c =>
    rw [hk] at h
    cases h
    exact ⟨(List.getElem?_eq_some_iff.mp hk).1, rfl⟩
theorem kW_e {cs : List kC} (h : ∀ i, i < cs.length → ad' i = ad i) (hc : kwc cs = true) : kW cI cZ cQ cG ad' cs = kW cI cZ cQ cG ad cs := by
  apply List.ext_getElem?
  intro k
  rw [kW_get, kW_get]
  cases hk : cs[k]? with
  | none => rfl
  | some c =>
    show some (ad' k, kce cI cZ cQ cG ad' c) = some (ad k, kce cI cZ cQ cG ad c)
    rw [h k (List.getElem?_eq_some_iff.mp hk).1, kcb_e h ((List.all_eq_true.mp hc) c (List.mem_of_getElem? hk))]
theorem kW_set {cs : List kC} {k : Nat} {c : kC} : (kW cI cZ cQ cG ad cs).set k (ad k, kce cI cZ cQ cG ad c) = kW cI cZ cQ cG ad (cs.set k c) := by
  apply List.ext_getElem?
  intro j
  rw [List.getElem?_set, kW_get, kW_get, List.getElem?_set]
  have hl : (kW cI cZ cQ cG ad cs).length = cs.length := by unfold kW; exact List.length_mapIdx
  rw [hl]
  by_cases hj : k = j
  · subst hj
    rw [if_pos rfl, if_pos rfl]
    split <;> rfl
  · rw [if_neg hj, if_neg hj]
theorem kloc_e (h : ∀ i, i < n → ad' i = ad i) {loc : zL} (hl : loc.all (fun q => kvb n q.2) = true) : zc ad' loc = zc ad loc := by
  unfold zc
  exact List.map_congr_left (fun q hq => by rw [kvb_e h ((List.all_eq_true.mp hl) q hq)])
theorem kstk_e (h : ∀ i, i < n → ad' i = ad i) {stk : List zV} (hl : stk.all (kvb n) = true) : stk.map (zv ad') = stk.map (zv ad) := List.map_congr_left (fun q hq => kvb_e h ((List.all_eq_true.mp hl) q hq))
end KX
/-- addresses of new cells behind those that are -/
noncomputable def kext (ad : Nat → Nat) (n : Nat) (f : Nat → Nat) : Nat → Nat := fun i => if i < n then ad i else f (i - n)
theorem kext_lt {ad : Nat → Nat} {n : Nat} {f : Nat → Nat} : ∀ i, i < n → kext ad n f i = ad i := fun i hi => by
  unfold kext
  rw [if_pos hi]
theorem kext_ge {ad : Nat → Nat} {n : Nat} {f : Nat → Nat} (i : Nat) : kext ad n f (i + n) = f i := by
  unfold kext
  rw [if_neg (by omega), Nat.add_sub_cancel]
theorem kW_app {cI cZ cQ cG : ClassId} {ad : Nat → Nat} {f : Nat → Nat} {cs ds : List kC} (hc : kwc cs = true) : kW cI cZ cQ cG (kext ad cs.length f) (cs ++ ds) = kW cI cZ cQ cG ad cs ++ ds.mapIdx (fun i c => (f i, kce cI cZ cQ cG (kext ad cs.length f) c)) := by
  rw [← kW_e kext_lt hc]
  unfold kW
  rw [List.mapIdx_append]
  refine congrArg (fun z => _ ++ z) ?_
  apply List.ext_getElem?
  intro k
  rw [List.getElem?_mapIdx, List.getElem?_mapIdx]
  cases ds[k]? with
  | none => rfl
  | some c =>
    show some (kext ad cs.length f (k + cs.length), _) = some (f k, _)
    rw [kext_ge]
noncomputable def khd : List zV → Bool
  | .inr (.inr _) :: _ => true
  | _ => false
theorem khd_el {l : List zV} (h : khd l = true) : ∃ k as, l = .inr (.inr k) :: as := by
  unfold khd at h
  split at h
  · exact ⟨_, _, rfl⟩
  · cases h
section KST
variable (kPI : Nat → Nat → Option Instr) (mL : Nat → Nat) (kNw : Nat → Nat → Option Nat) (kFl : Nat → Nat → Option (Nat × Nat)) (kDf : Nat → List (Option zV)) (kTy : Nat → Nat → Nat) (kQa kGa : Nat → Nat → Bool) (kCl : Nat → Nat → Option (Nat × Nat × Bool))
abbrev kN : Type := Nat × zL × List zV × List kC
noncomputable def k0 : zH := (fun _ _ => 0, fun _ => 0)
/-- a field's value by its kind: 0 an int, 1 a boolean, 2 a long, else a cell -/
noncomputable def kfit (t : Nat) (v : zV) : Bool := match t, v with
  | 0, .inl _ => true
  | 1, .inl x => decide (x = 0)
  | 2, .inr (.inl _) => true
  | _ + 3, .inr (.inr _) => true
  | _, _ => false
noncomputable def kat : ArrayType → Option Nat
  | .int => some 0
  | .boolean => some 1
  | _ => none
noncomputable def ksm (x : Int32) : Bool := decide (¬ x < 0) && decide (x.toNatClampNeg ≤ 100000)
noncomputable def knew (pc : Nat) (loc : zL) (stk : List zV) (cs ds : List kC) : Option kN := if (kwc cs && kwl cs.length loc stk) = true then some (pc, loc, .inr (.inr cs.length) :: stk, cs ++ ds) else none
noncomputable def kst (mid : Nat) (i : Instr) (pc : Nat) (loc : zL) (stk : List zV) (cs : List kC) : Option kN := match i with
  | .new idx => match kNw mid idx with
    | some ci => knew (pc + 3) loc stk cs [.inl (ci, kDf ci)]
    | none => none
  | .newarray t => match stk, kat t with
    | .inl x :: r, some b => if ksm x = true then knew (pc + 2) loc r cs [.inr (b, x.toNatClampNeg, [])] else none
    | _, _ => none
  | .anewarray idx => match stk with
    | .inl x :: r => if (ksm x && kQa mid idx) = true then knew (pc + 3) loc r cs [.inr (2, x.toNatClampNeg, List.replicate x.toNatClampNeg none)] else none
    | _ => none
  | .multianewarray idx dim => match stk with
    | .inl y :: .inl x :: r => if (ksm x && (ksm y && (kGa mid idx && decide (dim = 2)))) = true then knew (pc + 4) loc r cs (.inr (3, x.toNatClampNeg, (List.range x.toNatClampNeg).map (fun i => some (cs.length + 1 + i))) :: List.replicate x.toNatClampNeg (.inr (0, y.toNatClampNeg, []))) else none
    | _ => none
  | .getfield idx => match stk with
    | .inr (.inr k) :: r => match kFl mid idx, cs[k]? with
      | some (ci, fi), some (.inl (cj, fs)) => if ci = cj then (match fs[fi]? with
        | some (some v) => some (pc + 3, loc, v :: r, cs)
        | _ => none) else none
      | _, _ => none
    | _ => none
  | .putfield idx => match stk with
    | v :: .inr (.inr k) :: r => match kFl mid idx, cs[k]? with
      | some (ci, fi), some (.inl (cj, fs)) => if (decide (ci = cj) && (decide (fi < fs.length) && kfit (kTy ci fi) v)) = true then some (pc + 3, loc, r, cs.set k (.inl (cj, fs.set fi (some v)))) else none
      | _, _ => none
    | _ => none
  | .aastore => match stk with
    | .inr (.inr v) :: .inl x :: .inr (.inr a) :: r => match cs[a]?, cs[v]? with
      | some (.inr (2, n, rr)), some (.inl (8, _)) => if (decide (¬ x < 0) && (decide (x.toNatClampNeg < n) && decide (rr.length = n))) = true then some (pc + 1, loc, r, cs.set a (.inr (2, n, rr.set x.toNatClampNeg (some v)))) else none
      | _, _ => none
    | _ => none
  | _ => match zf1 i pc loc stk k0 with
    | some q => some (q.1, q.2.1, q.2.2.1, cs)
    | none => none
noncomputable def kcl (mid : Nat) (i : Instr) (n : Nat) (loc : zL) (stk : List zV) : Option (Nat × Nat) := match i with
  | .invokespecial idx => match kCl mid idx with
    | some (callee, na, _) => if (decide (na ≤ stk.length) && (kwl n loc (stk.drop na) && (decide (((stk.drop na).map zcat).sum ≤ 8) && (decide (((stk.take na).reverse.map zcat).sum ≤ mL callee) && khd (stk.take na).reverse)))) = true then some (callee, na) else none
    | none => none
  | _ => none
noncomputable def krun : Nat → Nat → Nat → Nat → zL → List zV → List kC → Option (List kC)
  | 0, _, _, _, _, _, _ => none
  | n + 1, d, mid, pc, loc, stk, cs => match kPI mid pc with
    | none => none
    | some i => match kcl mL kCl mid i cs.length loc stk with
      | some (callee, na) => if callee = 99 then (if na = 1 then krun n d mid (pc + 3) loc (stk.drop 1) cs else none) else (match d with
        | 0 => none
        | d' + 1 => match krun n d' callee 0 (zent 0 (stk.take na).reverse) [] cs with
          | some cs1 => krun n (d' + 1) mid (pc + 3) loc (stk.drop na) cs1
          | none => none)
      | none => match i with
        | .return_ => if stk.isEmpty = true then some cs else none
        | _ => match kst kNw kFl kDf kTy kQa kGa mid i pc loc stk cs with
          | some q => krun n d mid q.1 q.2.1 q.2.2.1 q.2.2.2
          | none => none
end KST
section KMONO
variable {kPI : Nat → Nat → Option Instr} {mL : Nat → Nat} {kNw : Nat → Nat → Option Nat} {kFl : Nat → Nat → Option (Nat × Nat)} {kDf : Nat → List (Option zV)} {kTy : Nat → Nat → Nat} {kQa kGa : Nat → Nat → Bool} {kCl : Nat → Nat → Option (Nat × Nat × Bool)}
theorem knew_el {pc : Nat} {loc : zL} {stk : List zV} {cs ds : List kC} {q : kN} (h : knew pc loc stk cs ds = some q) : (kwc cs = true ∧ loc.all (fun q => kvb cs.length q.2) = true ∧ stk.all (kvb cs.length) = true) ∧ q = (pc, loc, .inr (.inr cs.length) :: stk, cs ++ ds) := by
  unfold knew at h
  split at h
  case isTrue hg =>
    unfold kwl at hg
    simp only [Bool.and_eq_true] at hg
    exact ⟨⟨hg.1, hg.2.1, hg.2.2⟩, (Option.some.inj h).symm⟩
  case isFalse => cases h
theorem kst_mono {mid : Nat} {i : Instr} {pc : Nat} {loc : zL} {stk : List zV} {cs : List kC} {q : kN} (h : kst kNw kFl kDf kTy kQa kGa mid i pc loc stk cs = some q) : cs.length ≤ q.2.2.2.length ∧ ks cs ≤ ks q.2.2.2 := by
  have app : ∀ {pc' : Nat} {st' : List zV} {ds : List kC}, knew pc' loc st' cs ds = some q → cs.length ≤ q.2.2.2.length ∧ ks cs ≤ ks q.2.2.2 := fun h => by
    obtain ⟨-, rfl⟩ := knew_el h
    refine ⟨by rw [List.length_append]; omega, ?_⟩
    rw [ks_app]
    omega
  unfold kst at h
  split at h
  · split at h
    · exact app h
    · cases h
  · split at h
    · split at h
      · exact app h
      · cases h
    · cases h
  · split at h
    · split at h
      · exact app h
      · cases h
    · cases h
  · split at h
    · split at h
      · exact app h
      · cases h
    · cases h
  · split at h
    · split at h
      · split at h
        · split at h
          · cases h; exact ⟨Nat.le_refl _, Nat.le_refl _⟩
          · cases h
        · cases h
      · cases h
    · cases h
  · split at h
    · split at h
      · rename_i hk
        split at h
        · cases h
          exact ⟨Nat.le_of_eq List.length_set.symm, Nat.le_of_eq (Eq.symm (by apply ks_set _ _ _ _ hk; exact List.length_set))⟩
        · cases h
      · cases h
    · cases h
  · split at h
    · split at h
      · rename_i hk _
        split at h
        · cases h
          exact ⟨Nat.le_of_eq List.length_set.symm, Nat.le_of_eq (Eq.symm (by apply ks_set _ _ _ _ hk; rfl))⟩
        · cases h
      · cases h
    · cases h
  · split at h
    · cases h; exact ⟨Nat.le_refl _, Nat.le_refl _⟩
    · cases h
theorem krun_mono : ∀ (n d mid pc : Nat) (loc : zL) (stk : List zV) (cs cs' : List kC), krun kPI mL kNw kFl kDf kTy kQa kGa kCl n d mid pc loc stk cs = some cs' → cs.length ≤ cs'.length ∧ ks cs ≤ ks cs'
  | 0, _, _, _, _, _, _, _, h => by cases h
  | n + 1, d, mid, pc, loc, stk, cs, cs', h => by
    unfold krun at h
    cases hi : kPI mid pc with
    | none => rw [hi] at h; cases h
    | some i =>
      simp only [hi] at h
      cases hc : kcl mL kCl mid i cs.length loc stk with
      | some z =>
        obtain ⟨callee, na⟩ := z
        simp only [hc] at h
        split at h
        · split at h
          · exact krun_mono n _ _ _ _ _ _ _ h
          · cases h
        · cases d with
          | zero => cases h
          | succ d' =>
            simp only at h
            cases h1 : krun kPI mL kNw kFl kDf kTy kQa kGa kCl n d' callee 0 (zent 0 (stk.take na).reverse) [] cs with
            | none => rw [h1] at h; cases h
            | some cs1 =>
              rw [h1] at h
              have a := krun_mono n _ _ _ _ _ _ _ h1
              have b := krun_mono n _ _ _ _ _ _ _ h
              exact ⟨Nat.le_trans a.1 b.1, Nat.le_trans a.2 b.2⟩
      | none =>
        simp only [hc] at h
        split at h
        · split at h
          · cases h; exact ⟨Nat.le_refl _, Nat.le_refl _⟩
          · cases h
        · cases h1 : kst kNw kFl kDf kTy kQa kGa mid i pc loc stk cs with
          | none => rw [h1] at h; cases h
          | some q =>
            rw [h1] at h
            have a := kst_mono h1
            have b := krun_mono n _ _ _ _ _ _ _ h
            exact ⟨Nat.le_trans a.1 b.1, Nat.le_trans a.2 b.2⟩
end KMONO
