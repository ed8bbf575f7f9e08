/-! the same machine without the look at every cell: what it makes is well-made -/
theorem kvb_mono {n m : Nat} (h : n ≤ m) {v : zV} (hv : kvb n v = true) : kvb m v = true := by
  match v, hv with
  | .inl x, _ => rfl
  | .inr (.inl x), _ => rfl
  | .inr (.inr k), hv => exact decide_eq_true (Nat.lt_of_lt_of_le (of_decide_eq_true (p := k < n) hv) h)
theorem kob_mono {n m : Nat} (h : n ≤ m) {v : Option zV} (hv : kob n v = true) : kob m v = true := by
  match v, hv with
  | none, _ => rfl
  | some v, hv => exact kvb_mono h hv
theorem knb_mono {n m : Nat} (h : n ≤ m) {v : Option Nat} (hv : knb n v = true) : knb m v = true := by
  match v, hv with
  | none, _ => rfl
  | some k, hv => exact decide_eq_true (Nat.lt_of_lt_of_le (of_decide_eq_true (p := k < n) hv) h)
theorem kcb_mono {n m : Nat} (h : n ≤ m) {c : kC} (hc : kcb n c = true) : kcb m c = true := by
  match c, hc with
  | .inl (ci, fs), hc => exact List.all_eq_true.mpr (fun v hv => kob_mono h (List.all_eq_true.mp hc v hv))
  | .inr (t, k, r), hc => exact List.all_eq_true.mpr (fun v hv => knb_mono h (List.all_eq_true.mp hc v hv))
theorem kwc_app {cs ds : List kC} (h1 : kwc cs = true) (h2 : ∀ d ∈ ds, kcb (cs ++ ds).length d = true) : kwc (cs ++ ds) = true := by
  refine List.all_eq_true.mpr (fun c hc => ?_)
  rcases List.mem_append.mp hc with q | q
  · exact kcb_mono (by rw [List.length_append]; omega) (List.all_eq_true.mp h1 c q)
  · exact h2 c q
theorem kwc_set {cs : List kC} {k : Nat} {c : kC} (h1 : kwc cs = true) (h2 : kcb cs.length c = true) : kwc (cs.set k c) = true := by
  refine List.all_eq_true.mpr (fun d hd => ?_)
  rw [List.length_set]
  rcases List.mem_or_eq_of_mem_set hd with q | q
  · exact List.all_eq_true.mp h1 d q
  · rw [q]; exact h2
section KLI
variable (kPI : Nat → Nat → Option Instr) (mL : Nat → Nat) (kNw : Nat → Nat → Option Nat) (kFl : Nat → Nat → Option (Nat × Nat)) (kDf : Nat → List (Option zV)) (kTy : Nat → Nat → Nat) (kQa kGa : Nat → Nat → Bool) (kCl : Nat → Nat → Option (Nat × Nat × Bool))
noncomputable def knewL (pc : Nat) (loc : zL) (stk : List zV) (cs ds : List kC) : Option kN := if kwl cs.length loc stk = true then some (pc, loc, .inr (.inr cs.length) :: stk, cs ++ ds) else none
noncomputable def kstL (mid : Nat) (i : Instr) (pc : Nat) (loc : zL) (stk : List zV) (cs : List kC) : Option kN := match i with
  | .new idx => match kNw mid idx with
    | some ci => knewL (pc + 3) loc stk cs [.inl (ci, kDf ci)]
    | none => none
  | .newarray t => match stk, kat t with
    | .inl x :: r, some b => if ksm x = true then knewL (pc + 2) loc r cs [.inr (b, x.toNatClampNeg, [])] else none
    | _, _ => none
  | .anewarray idx => match stk with
    | .inl x :: r => if (ksm x && kQa mid idx) = true then knewL (pc + 3) loc r cs [.inr (2, x.toNatClampNeg, List.replicate x.toNatClampNeg none)] else none
    | _ => none
  | .multianewarray idx dim => match stk with
    | .inl y :: .inl x :: r => if (ksm x && (ksm y && (kGa mid idx && decide (dim = 2)))) = true then knewL (pc + 4) loc r cs (.inr (3, x.toNatClampNeg, (List.range x.toNatClampNeg).map (fun i => some (cs.length + 1 + i))) :: List.replicate x.toNatClampNeg (.inr (0, y.toNatClampNeg, []))) else none
    | _ => none
  | .getfield idx => match stk with
    | .inr (.inr k) :: r => match kFl mid idx, cs[k]? with
      | some (ci, fi), some (.inl (cj, fs)) => if ci = cj then (match fs[fi]? with
        | some (some v) => some (pc + 3, loc, v :: r, cs)
        | _ => none) else none
      | _, _ => none
    | _ => none
  | .putfield idx => match stk with
    | v :: .inr (.inr k) :: r => match kFl mid idx, cs[k]? with
      | some (ci, fi), some (.inl (cj, fs)) => if (decide (ci = cj) && (decide (fi < fs.length) && kfit (kTy ci fi) v)) = true then (if kvb cs.length v = true then some (pc + 3, loc, r, cs.set k (.inl (cj, fs.set fi (some v)))) else none) else none
      | _, _ => none
    | _ => none
  | .aastore => match stk with
    | .inr (.inr v) :: .inl x :: .inr (.inr a) :: r => match cs[a]?, cs[v]? with
      | some (.inr (2, n, rr)), some (.inl (8, _)) => if (decide (¬ x < 0) && (decide (x.toNatClampNeg < n) && decide (rr.length = n))) = true then some (pc + 1, loc, r, cs.set a (.inr (2, n, rr.set x.toNatClampNeg (some v)))) else none
      | _, _ => none
    | _ => none
  | _ => match zf1 i pc loc stk k0 with
    | some q => some (q.1, q.2.1, q.2.2.1, cs)
    | none => none
noncomputable def krunL : Nat → Nat → Nat → Nat → zL → List zV → List kC → Option (List kC)
  | 0, _, _, _, _, _, _ => none
  | n + 1, d, mid, pc, loc, stk, cs => match kPI mid pc with
    | none => none
    | some i => match kcl mL kCl mid i cs.length loc stk with
      | some (callee, na) => if callee = 99 then (if na = 1 then krunL n d mid (pc + 3) loc (stk.drop 1) cs else none) else (match d with
        | 0 => none
        | d' + 1 => match krunL n d' callee 0 (zent 0 (stk.take na).reverse) [] cs with
          | some cs1 => krunL n (d' + 1) mid (pc + 3) loc (stk.drop na) cs1
          | none => none)
      | none => match i with
        | .return_ => if stk.isEmpty = true then some cs else none
        | _ => match kstL kNw kFl kDf kTy kQa kGa mid i pc loc stk cs with
          | some q => krunL n d mid q.1 q.2.1 q.2.2.1 q.2.2.2
          | none => none
end KLI
section KLO
variable {kPI : Nat → Nat → Option Instr} {mL : Nat → Nat} {kNw : Nat → Nat → Option Nat} {kFl : Nat → Nat → Option (Nat × Nat)} {kDf : Nat → List (Option zV)} {kTy : Nat → Nat → Nat} {kQa kGa : Nat → Nat → Bool} {kCl : Nat → Nat → Option (Nat × Nat × Bool)}
theorem knewL_el {pc : Nat} {loc : zL} {stk : List zV} {cs ds : List kC} {q : kN} (hw : kwc cs = true) (h : knewL pc loc stk cs ds = some q) (hd : ∀ d ∈ ds, kcb (cs ++ ds).length d = true) : knew pc loc stk cs ds = some q ∧ kwc q.2.2.2 = true := by
  unfold knewL at h
  split at h
  case isTrue hg =>
    unfold knew
    rw [hw, hg]
    cases h
    exact ⟨rfl, kwc_app hw hd⟩
  case isFalse => cases h
theorem kstL_ok (hDf : ∀ ci, (kDf ci).all (kob 0) = true) {mid : Nat} {i : Instr} {pc : Nat} {loc : zL} {stk : List zV} {cs : List kC} {q : kN} (hw : kwc cs = true) (h : kstL kNw kFl kDf kTy kQa kGa mid i pc loc stk cs = some q) : kst kNw kFl kDf kTy kQa kGa mid i pc loc stk cs = some q ∧ kwc q.2.2.2 = true := by
  unfold kstL at h
  unfold kst
  split at h
  · split at h
    · rename_i hn
      simp only [hn]
      refine knewL_el hw h (fun d hd => ?_)
      have := List.mem_singleton.mp hd
      subst this
      exact kcb_mono (Nat.zero_le _) (hDf _)
    · cases h
  · split at h
    · rename_i hb
      simp only [hb]
      split at h
      · rename_i hs
        rw [if_pos hs]
        refine knewL_el hw h (fun d hd => ?_)
        have := List.mem_singleton.mp hd
        subst this
        rfl
      · cases h
    · cases h
  · split at h
    · simp only
      split at h
      · rename_i hs
        rw [if_pos hs]
        refine knewL_el hw h (fun d hd => ?_)
        have := List.mem_singleton.mp hd
        subst this
        refine List.all_eq_true.mpr (fun v hv => ?_)
        rw [(List.mem_replicate.mp hv).2]
        rfl
      · cases h
    · cases h
  · split at h
    · simp only
      split at h
      · rename_i hs
        rw [if_pos hs]
        refine knewL_el hw h (fun d hd => ?_)
        rcases List.mem_cons.mp hd with rfl | hd
        · refine List.all_eq_true.mpr (fun v hv => ?_)
          obtain ⟨j, hj, rfl⟩ := List.mem_map.mp hv
          have hj := List.mem_range.mp hj
          refine decide_eq_true ?_
          rw [List.length_append, List.length_cons, List.length_replicate]
          omega
        · rw [(List.mem_replicate.mp hd).2]
          rfl
      · cases h
    · cases h
  · split at h
    · simp only
      split at h
      · rename_i hf hk
        simp only [hf, hk]
        split at h
        · rename_i he
          rw [if_pos he]
          split at h
          · rename_i hv
            simp only [hv]
            cases h
            exact ⟨rfl, hw⟩
          · cases h
        · cases h
      · cases h
    · cases h
  · split at h
    · simp only
      split at h
      · rename_i hf hk
        simp only [hf, hk]
        split at h
        · rename_i he
          rw [if_pos he]
          split at h
          · rename_i hv
            cases h
            refine ⟨rfl, kwc_set hw ?_⟩
            refine List.all_eq_true.mpr (fun v hv9 => ?_)
            rcases List.mem_or_eq_of_mem_set hv9 with z | z
            · exact List.all_eq_true.mp (List.all_eq_true.mp hw _ (List.mem_of_getElem? hk)) v z
            · rw [z]; exact hv
          · cases h
        · cases h
      · cases h
    · cases h
  · split at h
    · simp only
      split at h
      · rename_i ha hv
        simp only [ha, hv]
        split at h
        · rename_i he
          rw [if_pos he]
          cases h
          refine ⟨rfl, kwc_set hw ?_⟩
          refine List.all_eq_true.mpr (fun o ho => ?_)
          rcases List.mem_or_eq_of_mem_set ho with z | z
          · exact List.all_eq_true.mp (List.all_eq_true.mp hw _ (List.mem_of_getElem? ha)) o z
          · rw [z]; exact decide_eq_true (List.getElem?_eq_some_iff.mp hv).1
        · cases h
      · cases h
    · cases h
  · split at h
    · rename_i hz
      cases h
      refine ⟨?_, hw⟩
      split
      all_goals first
        | (rw [hz])
        | (exfalso; simp_all; done)
    · cases h
theorem krunL_ok (hDf : ∀ ci, (kDf ci).all (kob 0) = true) : ∀ (n d mid pc : Nat) (loc : zL) (stk : List zV) (cs cs' : List kC), krunL kPI mL kNw kFl kDf kTy kQa kGa kCl n d mid pc loc stk cs = some cs' → kwc cs = true → krun kPI mL kNw kFl kDf kTy kQa kGa kCl n d mid pc loc stk cs = some cs' ∧ kwc cs' = true
  | 0, _, _, _, _, _, _, _, h, _ => by cases h
  | n + 1, d, mid, pc, loc, stk, cs, cs', h, hw => by
    unfold krunL at h
    unfold krun
    cases hi : kPI mid pc with
    | none => rw [hi] at h; cases h
    | some i =>
      simp only [hi] at h ⊢
      cases hc : kcl mL kCl mid i cs.length loc stk with
      | some z =>
        obtain ⟨callee, na⟩ := z
        simp only [hc] at h ⊢
        by_cases h99 : callee = 99
        · rw [if_pos h99] at h ⊢
          by_cases h1 : na = 1
          · rw [if_pos h1] at h ⊢
            exact krunL_ok hDf n _ _ _ _ _ _ _ h hw
          · rw [if_neg h1] at h
            cases h
        · rw [if_neg h99] at h ⊢
          cases d with
          | zero => cases h
          | succ d' =>
            simp only at h ⊢
            cases h1 : krunL kPI mL kNw kFl kDf kTy kQa kGa kCl n d' callee 0 (zent 0 (stk.take na).reverse) [] cs with
            | none => rw [h1] at h; cases h
            | some cs1 =>
              rw [h1] at h
              obtain ⟨a1, a2⟩ := krunL_ok hDf n _ _ _ _ _ _ _ h1 hw
              rw [a1]
              exact krunL_ok hDf n _ _ _ _ _ _ _ h a2
      | none =>
        simp only [hc] at h ⊢
        have key : (∃ q, kstL kNw kFl kDf kTy kQa kGa mid i pc loc stk cs = some q ∧ krunL kPI mL kNw kFl kDf kTy kQa kGa kCl n d mid q.1 q.2.1 q.2.2.1 q.2.2.2 = some cs' ∧ i ≠ .return_) ∨ (i = .return_ ∧ stk.isEmpty = true ∧ cs = cs') := by
          by_cases hr : i = .return_
          · subst hr
            simp only at h
            split at h
            case isTrue hs => cases h; exact Or.inr ⟨rfl, hs, rfl⟩
            case isFalse => cases h
          · refine Or.inl ?_
            split at h
            case h_1 => exact absurd rfl hr
            case h_2 =>
              cases hk : kstL kNw kFl kDf kTy kQa kGa mid i pc loc stk cs with
              | none => rw [hk] at h; cases h
              | some q => rw [hk] at h; exact ⟨q, rfl, h, hr⟩
        rcases key with ⟨q, hk, h, hr⟩ | ⟨rfl, hs, rfl⟩
        · obtain ⟨a1, a2⟩ := kstL_ok hDf hw hk
          obtain ⟨b1, b2⟩ := krunL_ok hDf n _ _ _ _ _ _ _ h a2
          refine ⟨?_, b2⟩
          split
          case h_1 => exact absurd rfl hr
          case h_2 => rw [a1]; exact b1
        · simp only
          rw [if_pos hs]
          exact ⟨rfl, hw⟩
end KLO
