/-! a run taken apart, step by step -/
section SBK
variable {m d mid pc : Nat} {loc : zL} {stk : List zV} {h : zH} {res : Option zV × zH}
theorem sb0 {i : Instr} {q : zN} (hi : yPI mid pc = some i) (hc : zcl yTab yMl yCal mid i stk = none) (he : zend (yMr mid) i stk = none) (hs : zst yTab yFld yKI yKL yGst yLdS yFldS yAcp mid i pc loc stk h = some q) (hr : yz m d mid pc loc stk h = some res) : ∃ m', yz m' d mid q.1 q.2.1 q.2.2.1 q.2.2.2 = some res := by
  cases m with
  | zero => cases hr
  | succ m =>
    have hr : zrun yTab yPI yMl yMr yFld yKI yKL yGst yLdS yFldS yAcp yCal (m + 1) d mid pc loc stk h = some res := hr
    rw [zrun] at hr
    simp only [hi, hc, he, hs] at hr
    exact ⟨m, hr⟩
/-- neither cells nor methods -/
theorem sb1 {i : Instr} {pc' : Nat} {loc' : zL} {stk' : List zV} {h' : zH} (hi : yPI mid pc = some i) (hs : zf1 i pc loc stk h = some (pc', loc', stk', h')) (hc : zcl yTab yMl yCal mid i stk = none) (he : zend (yMr mid) i stk = none) (hr : yz m d mid pc loc stk h = some res) : ∃ m', yz m' d mid pc' loc' stk' h' = some res :=
  sb0 (q := (pc', loc', stk', h')) hi hc he (yst_1 hs) hr
theorem ysth_2 {i : Instr} {q : zN} (h1 : zf1 i pc loc stk h = none) (e : zf2 yTab (yFld mid) i pc loc stk h = some q) : zst yTab yFld yKI yKL yGst yLdS yFldS yAcp mid i pc loc stk h = some q := by
  unfold zst
  rw [h1, e]
theorem yst_4 {i : Instr} {q : zN} (h1 : zf1 i pc loc stk h = none) (h2 : zf2 yTab (yFld mid) i pc loc stk h = none) (e : zf4 i pc loc stk h = some q) : zst yTab yFld yKI yKL yGst yLdS yFldS yAcp mid i pc loc stk h = some q := by
  unfold zst
  rw [h1, h2, e]
theorem yst_5 {i : Instr} {q : zN} (h1 : zf1 i pc loc stk h = none) (h2 : zf2 yTab (yFld mid) i pc loc stk h = none) (h4 : zf4 i pc loc stk h = none) (e : zf5 (yKI mid) (yKL mid) i pc loc stk h = some q) : zst yTab yFld yKI yKL yGst yLdS yFldS yAcp mid i pc loc stk h = some q := by
  unfold zst
  rw [h1, h2, h4, e]
theorem yst_6 {i : Instr} {q : zN} (h1 : zf1 i pc loc stk h = none) (h2 : zf2 yTab (yFld mid) i pc loc stk h = none) (h4 : zf4 i pc loc stk h = none) (h5 : zf5 (yKI mid) (yKL mid) i pc loc stk h = none) (e : zf6 yTab (yGst mid) (yLdS mid) (yFldS mid) (yAcp mid) i pc loc stk h = some q) : zst yTab yFld yKI yKL yGst yLdS yFldS yAcp mid i pc loc stk h = some q := by
  unfold zst
  rw [h1, h2, h4, h5, e]
/-- a field that is an int -/
theorem sgf {idx c fi b : Nat} (hi : yPI mid pc = some (.getfield idx)) (hz : zfo yTab (yFld mid) c idx = some (fi, 0, b)) (hr : yz m d mid pc loc (.inr (.inr c) :: stk) h = some res) : ∃ m', yz m' d mid (pc + 3) loc (.inl (h.1 c fi) :: stk) h = some res :=
  sb0 (q := (pc + 3, loc, .inl (h.1 c fi) :: stk, h)) hi rfl rfl (ysth_2 rfl (by show zoF (zfo yTab (yFld mid) c idx) _ = _; rw [hz]; rfl)) hr
/-- a field that is a row or an object -/
theorem sgr {idx c fi k b : Nat} (hi : yPI mid pc = some (.getfield idx)) (hz : zfo yTab (yFld mid) c idx = some (fi, k + 2, b)) (hr : yz m d mid pc loc (.inr (.inr c) :: stk) h = some res) : ∃ m', yz m' d mid (pc + 3) loc (.inr (.inr k) :: stk) h = some res :=
  sb0 (q := (pc + 3, loc, .inr (.inr k) :: stk, h)) hi rfl rfl (ysth_2 rfl (by show zoF (zfo yTab (yFld mid) c idx) _ = _; rw [hz]; rfl)) hr
theorem sglh {idx c fi b : Nat} (hi : yPI mid pc = some (.getfield idx)) (hz : zfo yTab (yFld mid) c idx = some (fi, 1, b)) (hr : yz m d mid pc loc (.inr (.inr c) :: stk) h = some res) : ∃ m', yz m' d mid (pc + 3) loc (.inr (.inl (h.2 c)) :: stk) h = some res :=
  sb0 (q := (pc + 3, loc, .inr (.inl (h.2 c)) :: stk, h)) hi rfl rfl (ysth_2 rfl (by show zoF (zfo yTab (yFld mid) c idx) _ = _; rw [hz]; rfl)) hr
theorem spf {idx c fi b : Nat} {x : Int32} (hi : yPI mid pc = some (.putfield idx)) (hz : zfo yTab (yFld mid) c idx = some (fi, 0, b)) (hb : zbit b x = true) (hr : yz m d mid pc loc (.inl x :: .inr (.inr c) :: stk) h = some res) : ∃ m', yz m' d mid (pc + 3) loc stk (zs h c fi x) = some res :=
  sb0 (q := (pc + 3, loc, stk, zs h c fi x)) hi rfl rfl (ysth_2 rfl (by show zoF (zfo yTab (yFld mid) c idx) _ = _; rw [hz]; show zgd (decide (0 = 0)) (zgd (zbit b x) _) = _; unfold zgd; rw [hb]; rfl)) hr
theorem splh {idx c fi : Nat} {x : Int64} (hi : yPI mid pc = some (.putfield idx)) (hz : zfo yTab (yFld mid) c idx = some (fi, 1, 2)) (hr : yz m d mid pc loc (.inr (.inl x) :: .inr (.inr c) :: stk) h = some res) : ∃ m', yz m' d mid (pc + 3) loc stk (zsl h c x) = some res :=
  sb0 (q := (pc + 3, loc, stk, zsl h c x)) hi rfl rfl (ysth_2 rfl (by show zoF (zfo yTab (yFld mid) c idx) _ = _; rw [hz]; rfl)) hr
/-- a place of a row: what it holds; that it is one is told by the run -/
theorem sia {c len : Nat} {q : List Nat} {x : Int32} (hi : yPI mid pc = some .iaload) (hz : zar yTab c 0 = some (len, q)) (hr : yz m d mid pc loc (.inl x :: .inr (.inr c) :: stk) h = some res) : zin x len = true ∧ ∃ m', yz m' d mid (pc + 1) loc (.inl (h.1 c x.toNatClampNeg) :: stk) h = some res := by
  have h4 : zar yTab c 4 = none := by
    unfold zar at hz ⊢
    cases ht : yTab c with
    | inl z => rfl
    | inr z =>
      obtain ⟨t, n, w⟩ := z
      rw [ht] at hz
      have hz : (if t = 0 then some (n, w) else none) = some (len, q) := hz
      by_cases e : t = 0
      · exact if_neg (by omega)
      · rw [if_neg e] at hz
        cases hz
  by_cases hx : zin x len = true
  · exact ⟨hx, sb0 (q := (pc + 1, loc, .inl (h.1 c x.toNatClampNeg) :: stk, h)) hi rfl rfl (ysth_2 rfl (by show zoA (zar yTab c 0) _ = _; rw [hz]; show zgd (zin x len) _ = _; unfold zgd; rw [hx]; rfl)) hr⟩
  · exfalso
    cases m with
    | zero => cases hr
    | succ m =>
      have hr : zrun yTab yPI yMl yMr yFld yKI yKL yGst yLdS yFldS yAcp yCal (m + 1) d mid pc loc (.inl x :: .inr (.inr c) :: stk) h = some res := hr
      rw [zrun] at hr
      have e2 : zf2 yTab (yFld mid) .iaload pc loc (.inl x :: .inr (.inr c) :: stk) h = none := by
        show zoA (zar yTab c 0) _ = _
        rw [hz]
        show zgd (zin x len) _ = _
        unfold zgd
        rw [if_neg hx]
      have e6 : zf6 yTab (yGst mid) (yLdS mid) (yFldS mid) (yAcp mid) .iaload pc loc (.inl x :: .inr (.inr c) :: stk) h = none := by
        show zoA (zar yTab c 4) _ = _
        rw [h4]
        rfl
      have e : zst yTab yFld yKI yKL yGst yLdS yFldS yAcp mid .iaload pc loc (.inl x :: .inr (.inr c) :: stk) h = none := by
        unfold zst
        rw [show zf1 .iaload pc loc (.inl x :: .inr (.inr c) :: stk) h = none from rfl, e2, show zf4 .iaload pc loc (.inl x :: .inr (.inr c) :: stk) h = none from rfl, show zf5 (yKI mid) (yKL mid) .iaload pc loc (.inl x :: .inr (.inr c) :: stk) h = none from rfl]
        exact e6
      simp only [hi, show zcl yTab yMl yCal mid .iaload (.inl x :: .inr (.inr c) :: stk) = none from rfl, show zend (yMr mid) .iaload (.inl x :: .inr (.inr c) :: stk) = none from rfl, e] at hr
      cases hr
theorem sis {c len : Nat} {q : List Nat} {x v : Int32} (hi : yPI mid pc = some .iastore) (hz : zar yTab c 0 = some (len, q)) (hr : yz m d mid pc loc (.inl v :: .inl x :: .inr (.inr c) :: stk) h = some res) : zin x len = true ∧ ∃ m', yz m' d mid (pc + 1) loc stk (zs h c x.toNatClampNeg v) = some res := by
  by_cases hx : zin x len = true
  · exact ⟨hx, sb0 (q := (pc + 1, loc, stk, zs h c x.toNatClampNeg v)) hi rfl rfl (ysth_2 rfl (by show zoA (zar yTab c 0) _ = _; rw [hz]; show zgd (zin x len) _ = _; unfold zgd; rw [hx]; rfl)) hr⟩
  · exfalso
    cases m with
    | zero => cases hr
    | succ m =>
      have hr : zrun yTab yPI yMl yMr yFld yKI yKL yGst yLdS yFldS yAcp yCal (m + 1) d mid pc loc (.inl v :: .inl x :: .inr (.inr c) :: stk) h = some res := hr
      rw [zrun] at hr
      have e2 : zf2 yTab (yFld mid) .iastore pc loc (.inl v :: .inl x :: .inr (.inr c) :: stk) h = none := by
        show zoA (zar yTab c 0) _ = _
        rw [hz]
        show zgd (zin x len) _ = _
        unfold zgd
        rw [if_neg hx]
      have e : zst yTab yFld yKI yKL yGst yLdS yFldS yAcp mid .iastore pc loc (.inl v :: .inl x :: .inr (.inr c) :: stk) h = none := by
        unfold zst
        rw [show zf1 .iastore pc loc (.inl v :: .inl x :: .inr (.inr c) :: stk) h = none from rfl, e2]
        rfl
      simp only [hi, show zcl yTab yMl yCal mid .iastore (.inl v :: .inl x :: .inr (.inr c) :: stk) = none from rfl, show zend (yMr mid) .iastore (.inl v :: .inl x :: .inr (.inr c) :: stk) = none from rfl, e] at hr
      cases hr
/-- a row of rows, at a place that is told -/
theorem saa {c t len z : Nat} {q : List Nat} {x : Int32} (hi : yPI mid pc = some .aaload) (ht : yTab c = .inr (t, len, q)) (h2 : t = 2 ∨ t = 3) (hx : zin x len = true) (hq : q[x.toNatClampNeg]? = some z) (hr : yz m d mid pc loc (.inl x :: .inr (.inr c) :: stk) h = some res) : ∃ m', yz m' d mid (pc + 1) loc (.inr (.inr z) :: stk) h = some res :=
  sb0 (q := (pc + 1, loc, .inr (.inr z) :: stk, h)) hi rfl rfl (ysth_2 rfl (by
    show (match yTab c with
    | .inr (t, n, q) => zgd (decide (t = 2 ∨ t = 3)) (zgd (zin x n) (match q[x.toNatClampNeg]? with
      | some z => some (pc + 1, loc, .inr (.inr z) :: stk, h)
      | none => none))
    | _ => none) = _
    rw [ht]
    show zgd (decide (t = 2 ∨ t = 3)) (zgd (zin x len) (match q[x.toNatClampNeg]? with
      | some z => some (pc + 1, loc, .inr (.inr z) :: stk, h)
      | none => none)) = _
    unfold zgd
    rw [if_pos (decide_eq_true h2), hx, hq]
    rfl)) hr
/-- branches -/
theorem si1t {c : ClassFile.Cond} {off : Int} {x : Int32} (hi : yPI mid pc = some (.ifCond c off)) (ho : 0 ≤ (pc : Int) + off) (hc : zk1 c x = true) (hr : yz m d mid pc loc (.inl x :: stk) h = some res) : ∃ m', yz m' d mid (ztgt pc off) loc stk h = some res :=
  sb1 hi (by show zgd (decide (0 ≤ (pc : Int) + off)) (if zk1 c x = true then some (ztgt pc off, loc, stk, h) else some (pc + 3, loc, stk, h)) = _; unfold zgd; rw [if_pos (decide_eq_true ho), if_pos hc]) rfl rfl hr
theorem si1f {c : ClassFile.Cond} {off : Int} {x : Int32} (hi : yPI mid pc = some (.ifCond c off)) (ho : 0 ≤ (pc : Int) + off) (hc : ¬ zk1 c x = true) (hr : yz m d mid pc loc (.inl x :: stk) h = some res) : ∃ m', yz m' d mid (pc + 3) loc stk h = some res :=
  sb1 hi (by show zgd (decide (0 ≤ (pc : Int) + off)) (if zk1 c x = true then some (ztgt pc off, loc, stk, h) else some (pc + 3, loc, stk, h)) = _; unfold zgd; rw [if_pos (decide_eq_true ho), if_neg hc]) rfl rfl hr
theorem si2t {c : ClassFile.Cond} {off : Int} {x y : Int32} (hi : yPI mid pc = some (.if_icmp c off)) (ho : 0 ≤ (pc : Int) + off) (hc : zk2 c x y = true) (hr : yz m d mid pc loc (.inl y :: .inl x :: stk) h = some res) : ∃ m', yz m' d mid (ztgt pc off) loc stk h = some res :=
  sb1 hi (by show zgd (decide (0 ≤ (pc : Int) + off)) (if zk2 c x y = true then some (ztgt pc off, loc, stk, h) else some (pc + 3, loc, stk, h)) = _; unfold zgd; rw [if_pos (decide_eq_true ho), if_pos hc]) rfl rfl hr
theorem si2f {c : ClassFile.Cond} {off : Int} {x y : Int32} (hi : yPI mid pc = some (.if_icmp c off)) (ho : 0 ≤ (pc : Int) + off) (hc : ¬ zk2 c x y = true) (hr : yz m d mid pc loc (.inl y :: .inl x :: stk) h = some res) : ∃ m', yz m' d mid (pc + 3) loc stk h = some res :=
  sb1 hi (by show zgd (decide (0 ≤ (pc : Int) + off)) (if zk2 c x y = true then some (ztgt pc off, loc, stk, h) else some (pc + 3, loc, stk, h)) = _; unfold zgd; rw [if_pos (decide_eq_true ho), if_neg hc]) rfl rfl hr
/-- a call: the callee's run stands in the run -/
theorem scl_ {i : Instr} {callee : Nat} {args rest : List zV} (hi : yPI mid pc = some i) (hc : zcl yTab yMl yCal mid i stk = some (callee, args, rest)) (hr : yz m d mid pc loc stk h = some res) : ∃ m1 d' r h1 m', d = d' + 1 ∧ yrun m1 d' callee args h = some (r, h1) ∧ yz m' d mid (pc + 3) loc (r.toList ++ rest) h1 = some res := by
  cases m with
  | zero => cases hr
  | succ m =>
    have hr : zrun yTab yPI yMl yMr yFld yKI yKL yGst yLdS yFldS yAcp yCal (m + 1) d mid pc loc stk h = some res := hr
    rw [zrun] at hr
    simp only [hi, hc] at hr
    cases d with
    | zero => cases hr
    | succ d' =>
      cases e : zrun yTab yPI yMl yMr yFld yKI yKL yGst yLdS yFldS yAcp yCal m d' callee 0 (zent 0 args) [] h with
      | none =>
        simp only [e] at hr
        cases hr
      | some z =>
        obtain ⟨r, h1⟩ := z
        simp only [e] at hr
        exact ⟨m, d', r, h1, m, rfl, e, hr⟩
/-- the end -/
theorem senh {i : Instr} {r : Option zV} (hi : yPI mid pc = some i) (hc : zcl yTab yMl yCal mid i stk = none) (he : zend (yMr mid) i stk = some r) (hr : yz m d mid pc loc stk h = some res) : res = (r, h) := by
  cases m with
  | zero => cases hr
  | succ m =>
    have hr : zrun yTab yPI yMl yMr yFld yKI yKL yGst yLdS yFldS yAcp yCal (m + 1) d mid pc loc stk h = some res := hr
    rw [zrun] at hr
    simp only [hi, hc, he] at hr
    exact (Option.some.inj hr).symm
end SBK
/-! locals by what is got of them -/
section SBL
theorem zg_same {loc : zL} {k : Nat} {v : zV} : zget (zput1 loc k v) k = some v := by
  unfold zget zput1
  rw [List.find?_cons_of_pos (by simp)]
  rfl
theorem zg_put {loc : zL} {k j : Nat} {v w : zV} (hj : j ≠ k) (hg : zget loc j = some w) (hw : zcat w = 1) : zget (zput1 loc k v) j = some w := by
  unfold zget zput1 at *
  rw [List.find?_cons_of_neg (by simp; exact fun e => hj e.symm), List.find?_filter]
  have key : ∀ l : zL, (l.find? (fun q => q.1 == j)).map (·.2) = some w → (l.find? (fun a => decide ((!(a.1 == k) && !(a.1 + 1 == k && zcat a.2 == 2)) = true ∧ (a.1 == j) = true))).map (·.2) = some w := by
    intro l
    induction l with
    | nil => intro h; cases h
    | cons a l ih =>
      intro h
      by_cases e : a.1 = j
      · rw [List.find?_cons_of_pos (by simpa using e)] at h
        have h : some a.2 = some w := h
        have ew : a.2 = w := Option.some.inj h
        rw [List.find?_cons_of_pos]
        · rw [← ew]
          rfl
        · rw [ew, hw, e]
          simp [hj]
      · rw [List.find?_cons_of_neg (by simpa using e)] at h
        rw [List.find?_cons_of_neg (by simp [e])]
        exact ih h
  exact key loc hg
variable {m d mid pc : Nat} {loc : zL} {stk : List zV} {h : zH} {res : Option zV × zH}
theorem sil {k : Fin 4} {x : Int32} (hi : yPI mid pc = some (.iload_n k)) (hk : zget loc k.val = some (.inl x)) (hr : yz m d mid pc loc stk h = some res) : ∃ m', yz m' d mid (pc + 1) loc (.inl x :: stk) h = some res :=
  sb1 hi (by show zog loc k.val _ = _; unfold zog; rw [hk]; rfl) rfl rfl hr
theorem sil2 {k : Nat} {x : Int32} (hi : yPI mid pc = some (.iload k)) (hk : zget loc k = some (.inl x)) (hr : yz m d mid pc loc stk h = some res) : ∃ m', yz m' d mid (pc + 2) loc (.inl x :: stk) h = some res :=
  sb1 hi (by show zog loc k _ = _; unfold zog; rw [hk]; rfl) rfl rfl hr
theorem sal {k : Fin 4} {x : Nat} (hi : yPI mid pc = some (.aload_n k)) (hk : zget loc k.val = some (.inr (.inr x))) (hr : yz m d mid pc loc stk h = some res) : ∃ m', yz m' d mid (pc + 1) loc (.inr (.inr x) :: stk) h = some res :=
  sb1 hi (by show zog loc k.val _ = _; unfold zog; rw [hk]; rfl) rfl rfl hr
theorem sal2 {k : Nat} {x : Nat} (hi : yPI mid pc = some (.aload k)) (hk : zget loc k = some (.inr (.inr x))) (hr : yz m d mid pc loc stk h = some res) : ∃ m', yz m' d mid (pc + 2) loc (.inr (.inr x) :: stk) h = some res :=
  sb1 hi (by show zog loc k _ = _; unfold zog; rw [hk]; rfl) rfl rfl hr
theorem sllh {k : Fin 4} {x : Int64} (hi : yPI mid pc = some (.lload_n k)) (hk : zget loc k.val = some (.inr (.inl x))) (hr : yz m d mid pc loc stk h = some res) : ∃ m', yz m' d mid (pc + 1) loc (.inr (.inl x) :: stk) h = some res :=
  sb1 hi (by show zog loc k.val _ = _; unfold zog; rw [hk]; rfl) rfl rfl hr
theorem ssth {k : Fin 4} {x : Int32} (hi : yPI mid pc = some (.istore_n k)) (hr : yz m d mid pc loc (.inl x :: stk) h = some res) : ∃ m', yz m' d mid (pc + 1) (zput1 loc k.val (.inl x)) stk h = some res := sb1 hi rfl rfl rfl hr
theorem sst2 {k : Nat} {x : Int32} (hi : yPI mid pc = some (.istore k)) (hr : yz m d mid pc loc (.inl x :: stk) h = some res) : ∃ m', yz m' d mid (pc + 2) (zput1 loc k (.inl x)) stk h = some res := sb1 hi rfl rfl rfl hr
theorem sas_ {k : Fin 4} {x : Nat} (hi : yPI mid pc = some (.astore_n k)) (hr : yz m d mid pc loc (.inr (.inr x) :: stk) h = some res) : ∃ m', yz m' d mid (pc + 1) (zput1 loc k.val (.inr (.inr x))) stk h = some res := sb1 hi rfl rfl rfl hr
theorem sas2 {k : Nat} {x : Nat} (hi : yPI mid pc = some (.astore k)) (hr : yz m d mid pc loc (.inr (.inr x) :: stk) h = some res) : ∃ m', yz m' d mid (pc + 2) (zput1 loc k (.inr (.inr x))) stk h = some res := sb1 hi rfl rfl rfl hr
theorem sii {k : Nat} {n : Int} {x : Int32} (hi : yPI mid pc = some (.iinc k n)) (hk : zget loc k = some (.inl x)) (hr : yz m d mid pc loc stk h = some res) : ∃ m', yz m' d mid (pc + 3) (zput1 loc k (.inl (x + Int32.ofInt n))) stk h = some res :=
  sb1 hi (by show (match zget loc k with
    | some (.inl x) => some (pc + 3, zput1 loc k (.inl (x + Int32.ofInt n)), stk, h)
    | _ => none) = _; rw [hk]) rfl rfl hr
theorem sgoh {off : Int} (hi : yPI mid pc = some (.goto off)) (ho : 0 ≤ (pc : Int) + off) (hr : yz m d mid pc loc stk h = some res) : ∃ m', yz m' d mid (ztgt pc off) loc stk h = some res :=
  sb1 hi (by show zj pc off loc stk h = _; unfold zj; rw [if_pos ho]) rfl rfl hr
theorem sgob {off : Int} {t : Nat} (hi : yPI mid pc = some (.goto off)) (ho : (pc : Int) + off = (t : Int)) (hr : yz m d mid pc loc stk h = some res) : ∃ m', yz m' d mid t loc stk h = some res := by
  have := sgoh hi (by omega) hr
  rw [show ztgt pc off = t by unfold ztgt; rw [ho]; rfl] at this
  exact this
theorem slc {x : Nat} {v : Int32} (hi : yPI mid pc = some (.ldc x)) (hk : yKI mid x = some v) (hr : yz m d mid pc loc stk h = some res) : ∃ m', yz m' d mid (pc + 2) loc (.inl v :: stk) h = some res :=
  sb0 (q := (pc + 2, loc, .inl v :: stk, h)) hi rfl rfl (yst_5 rfl rfl rfl (by
    unfold zf5
    simp only [hk])) hr
theorem slc2 {x : Nat} {v : Int64} (hi : yPI mid pc = some (.ldc2_w x)) (hk : yKL mid x = some v) (hr : yz m d mid pc loc stk h = some res) : ∃ m', yz m' d mid (pc + 3) loc (.inr (.inl v) :: stk) h = some res :=
  sb0 (q := (pc + 3, loc, .inr (.inl v) :: stk, h)) hi rfl rfl (yst_5 rfl rfl rfl (by
    unfold zf5
    simp only [hk])) hr
theorem scm {x y : Int64} (hi : yPI mid pc = some .lcmp) (hr : yz m d mid pc loc (.inr (.inl y) :: .inr (.inl x) :: stk) h = some res) : ∃ m', yz m' d mid (pc + 1) loc (.inl (lg_cmp x y) :: stk) h = some res :=
  sb0 (q := (pc + 1, loc, .inl (lg_cmp x y) :: stk, h)) hi rfl rfl (yst_4 rfl rfl rfl) hr
theorem sldh {x y : Int64} (hi : yPI mid pc = some .ldiv) (hy : ¬ y = 0) (hr : yz m d mid pc loc (.inr (.inl y) :: .inr (.inl x) :: stk) h = some res) : ∃ m', yz m' d mid (pc + 1) loc (.inr (.inl (x / y)) :: stk) h = some res :=
  sb0 (q := (pc + 1, loc, .inr (.inl (x / y)) :: stk, h)) hi rfl rfl (yst_4 rfl rfl (by show zgd (decide (¬ y = 0)) (some (pc + 1, loc, .inr (.inl (x / y)) :: stk, h)) = _; unfold zgd; rw [if_pos (decide_eq_true hy)])) hr
/-- a choice by a table -/
theorem slkh {dd : Int} {ps : Array (Int × Int)} {x : Int32} {off : Int} (hi : yPI mid pc = some (.lookupswitch dd ps)) (hs : (ps.toList.zip (ps.toList.drop 1)).all (fun (a, next) => a.1 < next.1) = true) (ho : Op.lookupswitch.offset ps.toList dd x.toInt = off) (h0 : 0 ≤ (pc : Int) + off) (hr : yz m d mid pc loc (.inl x :: stk) h = some res) : ∃ m', yz m' d mid (ztgt pc off) loc stk h = some res :=
  sb0 (q := (ztgt pc off, loc, stk, h)) hi rfl rfl (yst_4 rfl rfl (by
    show zgd ((ps.toList.zip (ps.toList.drop 1)).all (fun (a, next) => a.1 < next.1)) (zj pc (Op.lookupswitch.offset ps.toList dd x.toInt) loc stk h) = _
    unfold zgd zj
    rw [if_pos hs, ho, if_pos h0])) hr
theorem stbh {dd lo hi' : Int} {offs : Array Int} {x : Int32} {off : Int} (hi : yPI mid pc = some (.tableswitch dd lo hi' offs)) (ho : (if x.toInt < lo ∨ hi' < x.toInt then some dd else offs[(x.toInt - lo).toNat]?) = some off) (h0 : 0 ≤ (pc : Int) + off) (hr : yz m d mid pc loc (.inl x :: stk) h = some res) : ∃ m', yz m' d mid (ztgt pc off) loc stk h = some res :=
  sb0 (q := (ztgt pc off, loc, stk, h)) hi rfl rfl (yst_4 rfl rfl (by
    show (if x.toInt < lo ∨ hi' < x.toInt then zj pc dd loc stk h else (match offs[(x.toInt - lo).toNat]? with
    | some off => zj pc off loc stk h
    | none => none)) = _
    by_cases hc : x.toInt < lo ∨ hi' < x.toInt
    · rw [if_pos hc] at ho ⊢
      cases ho
      unfold zj
      rw [if_pos h0]
    · rw [if_neg hc] at ho ⊢
      rw [ho]
      show zj pc off loc stk h = _
      unfold zj
      rw [if_pos h0])) hr
end SBL
/-! numbers -/
section SBN
theorem iadd_ {x y : Int32} (h : -2147483648 ≤ x.toInt + y.toInt ∧ x.toInt + y.toInt ≤ 2147483647) : (x + y).toInt = x.toInt + y.toInt := by
  rw [Int32.toInt_add]
  exact sw32 h.1 h.2
theorem isub_ {x y : Int32} (h : -2147483648 ≤ x.toInt - y.toInt ∧ x.toInt - y.toInt ≤ 2147483647) : (x - y).toInt = x.toInt - y.toInt := by
  rw [Int32.toInt_sub]
  exact sw32 h.1 h.2
theorem ineg_ {x : Int32} (h : -2147483647 ≤ x.toInt) : (-x).toInt = -x.toInt := by
  have := si32 x
  rw [Int32.toInt_neg]
  exact sw32 (by omega) (by omega)
theorem zin_i {x : Int32} {n : Nat} (h : zin x n = true) : 0 ≤ x.toInt ∧ x.toInt < (n : Int) := of_decide_eq_true h
theorem tcn {x : Int32} : x.toNatClampNeg = x.toInt.toNat := rfl
end SBN
section SBC
theorem i0_ : (0 : Int32).toInt = 0 := by decide
theorem k1_eq {x : Int32} : zk1 .eq x = true ↔ x.toInt = 0 := by
  show decide (x = 0) = true ↔ _
  rw [decide_eq_true_eq, ← Int32.toInt_inj, i0_]
theorem k1_ne {x : Int32} : zk1 .ne x = true ↔ ¬ x.toInt = 0 := by
  show decide (¬ x = 0) = true ↔ _
  rw [decide_eq_true_eq, ← Int32.toInt_inj, i0_]
theorem k1_lt {x : Int32} : zk1 .lt x = true ↔ x.toInt < 0 := by
  show decide (x < 0) = true ↔ _
  rw [decide_eq_true_eq, Int32.lt_iff_toInt_lt, i0_]
theorem k1_ge {x : Int32} : zk1 .ge x = true ↔ 0 ≤ x.toInt := by
  show decide (0 ≤ x) = true ↔ _
  rw [decide_eq_true_eq, Int32.le_iff_toInt_le, i0_]
theorem k1_gt {x : Int32} : zk1 .gt x = true ↔ 0 < x.toInt := by
  show decide (0 < x) = true ↔ _
  rw [decide_eq_true_eq, Int32.lt_iff_toInt_lt, i0_]
theorem k1_le {x : Int32} : zk1 .le x = true ↔ x.toInt ≤ 0 := by
  show decide (x ≤ 0) = true ↔ _
  rw [decide_eq_true_eq, Int32.le_iff_toInt_le, i0_]
theorem k2_eq {x y : Int32} : zk2 .eq x y = true ↔ x.toInt = y.toInt := by
  show decide (x = y) = true ↔ _
  rw [decide_eq_true_eq, ← Int32.toInt_inj]
theorem k2_ne {x y : Int32} : zk2 .ne x y = true ↔ ¬ x.toInt = y.toInt := by
  show decide (¬ x = y) = true ↔ _
  rw [decide_eq_true_eq, ← Int32.toInt_inj]
theorem k2h_lt {x y : Int32} : zk2 .lt x y = true ↔ x.toInt < y.toInt := by
  show decide (x < y) = true ↔ _
  rw [decide_eq_true_eq, Int32.lt_iff_toInt_lt]
theorem k2_ge {x y : Int32} : zk2 .ge x y = true ↔ y.toInt ≤ x.toInt := by
  show decide (y ≤ x) = true ↔ _
  rw [decide_eq_true_eq, Int32.le_iff_toInt_le]
theorem k2_gt {x y : Int32} : zk2 .gt x y = true ↔ y.toInt < x.toInt := by
  show decide (y < x) = true ↔ _
  rw [decide_eq_true_eq, Int32.lt_iff_toInt_lt]
theorem k2h_le {x y : Int32} : zk2 .le x y = true ↔ x.toInt ≤ y.toInt := by
  show decide (x ≤ y) = true ↔ _
  rw [decide_eq_true_eq, Int32.le_iff_toInt_le]
theorem i2l_ {x : Int32} : x.toInt64.toInt = x.toInt := Int32.toInt_toInt64 x
theorem l2i_ {x : Int64} (h : -2147483648 ≤ x.toInt ∧ x.toInt ≤ 2147483647) : x.toInt32.toInt = x.toInt := by
  rw [Int64.toInt_toInt32]
  exact sw32 h.1 h.2
theorem imul_ {x y : Int32} (h : -2147483648 ≤ x.toInt * y.toInt ∧ x.toInt * y.toInt ≤ 2147483647) : (x * y).toInt = x.toInt * y.toInt := by
  rw [Int32.toInt_mul]
  exact sw32 h.1 h.2
theorem ladd_ {x y : Int64} (h : -9223372036854775808 ≤ x.toInt + y.toInt ∧ x.toInt + y.toInt ≤ 9223372036854775807) : (x + y).toInt = x.toInt + y.toInt := by
  rw [Int64.toInt_add]
  exact sw64 h.1 h.2
theorem lsub_ {x y : Int64} (h : -9223372036854775808 ≤ x.toInt - y.toInt ∧ x.toInt - y.toInt ≤ 9223372036854775807) : (x - y).toInt = x.toInt - y.toInt := by
  rw [Int64.toInt_sub]
  exact sw64 h.1 h.2
theorem lmul_ {x y : Int64} (h : -9223372036854775808 ≤ x.toInt * y.toInt ∧ x.toInt * y.toInt ≤ 9223372036854775807) : (x * y).toInt = x.toInt * y.toInt := by
  rw [Int64.toInt_mul]
  exact sw64 h.1 h.2
theorem ldiv_ {x y : Int64} (h : -1000000000000 ≤ x.toInt ∧ x.toInt ≤ 1000000000000) : (x / y).toInt = x.toInt.tdiv y.toInt := by
  rw [Int64.toInt_div]
  have a := Int.natAbs_tdiv_le_natAbs x.toInt y.toInt
  exact sw64 (by omega) (by omega)
end SBC
