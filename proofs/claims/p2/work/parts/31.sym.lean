/-! a state told by linear expressions -/
abbrev sV : Type := sE ⊕ (sE ⊕ Nat)
abbrev sS : Type := List (Nat × sV) × List sV × List (Nat × sE × sE) × sB × List sE × List (Nat × sE)
abbrev sD : Type := List (Nat × Int × Int)
section SYM
variable (reg : Nat → Nat) (gv : Nat → zH → Int) (ρ : Nat → Int)
noncomputable def sm : zV → sV → Prop
  | .inl x, .inl e => x.toInt = sv ρ e
  | .inr (.inl y), .inr (.inl e) => y.toInt = sv ρ e
  | .inr (.inr k), .inr (.inr r) => reg k = r
  | _, _ => False
noncomputable def sms : List zV → List sV → Prop
  | [], [] => True
  | v :: l, s :: t => sm reg ρ v s ∧ sms l t
  | _, _ => False
noncomputable def smm (h : zH) (m : Nat × sE × sE) : Prop := if m.1 < 1000 then (0 ≤ sv ρ m.2.1 ∧ ∀ k, reg k = m.1 → (h.1 k (sv ρ m.2.1).toNat).toInt = sv ρ m.2.2) else gv (m.1 - 1000) h = sv ρ m.2.2
noncomputable def sMt (ρ0 : Nat → Int) (S : sS) (loc : zL) (stk : List zV) (h : zH) : Prop :=
  (∀ p ∈ S.1, ∃ v, zget loc p.1 = some v ∧ sm reg ρ v p.2) ∧ sms reg ρ stk S.2.1 ∧ (∀ m ∈ S.2.2.1, smm reg gv ρ h m) ∧ sOk S.2.2.2.1 ρ ∧ (∀ c ∈ S.2.2.2.2.1, sv ρ c ≤ 0) ∧ (∀ p ∈ S.2.2.2.2.2, ρ0 p.1 = sv ρ p.2)
end SYM
noncomputable def swE (n : Nat) (e : sE) : Bool := e.2.all (fun p => decide (p.1 < n))
noncomputable def swV (n : Nat) : sV → Bool
  | .inl e => swE n e
  | .inr (.inl e) => swE n e
  | .inr (.inr _) => true
noncomputable def sw (S : sS) : Bool := S.1.all (fun p => swV S.2.2.2.1.length p.2) && (S.2.1.all (swV S.2.2.2.1.length) && (S.2.2.1.all (fun m => swE S.2.2.2.1.length m.2.1 && swE S.2.2.2.1.length m.2.2) && (S.2.2.2.2.1.all (swE S.2.2.2.1.length) && S.2.2.2.2.2.all (fun p => swE S.2.2.2.1.length p.2))))
theorem swE_v {n : Nat} {e : sE} (h : swE n e = true) (ρ : Nat → Int) (x : Int) : sv (fun j => if j = n then x else ρ j) e = sv ρ e := by
  have key : ∀ l : List (Nat × Int), l.all (fun p => decide (p.1 < n)) = true → sT (fun j => if j = n then x else ρ j) l = sT ρ l := by
    intro l
    induction l with
    | nil => intro _; rfl
    | cons p l ih =>
      intro hl
      rw [List.all_cons, Bool.and_eq_true, decide_eq_true_eq] at hl
      show p.2 * (if p.1 = n then x else ρ p.1) + _ = p.2 * ρ p.1 + _
      rw [if_neg (by omega), ih hl.2]
  show e.1 + _ = e.1 + _
  rw [key e.2 h]
theorem swV_m {reg : Nat → Nat} {n : Nat} {s : sV} (h : swV n s = true) {ρ : Nat → Int} (x : Int) {v : zV} (hm : sm reg ρ v s) : sm reg (fun j => if j = n then x else ρ j) v s := by
  match v, s, hm with
  | .inl a, .inl e, hm => show a.toInt = _; rw [swE_v h]; exact hm
  | .inr (.inl a), .inr (.inl e), hm => show a.toInt = _; rw [swE_v h]; exact hm
  | .inr (.inr k), .inr (.inr r), hm => exact hm
theorem sws_m {reg : Nat → Nat} {n : Nat} {ρ : Nat → Int} (x : Int) : ∀ {l : List zV} {t : List sV}, t.all (swV n) = true → sms reg ρ l t → sms reg (fun j => if j = n then x else ρ j) l t
  | [], [], _, _ => trivial
  | v :: l, s :: t, h, hm => by
    rw [List.all_cons, Bool.and_eq_true] at h
    exact ⟨swV_m h.1 x hm.1, sws_m x h.2 hm.2⟩
/-- a fresh sign between lo and hi -/
noncomputable def sfr (lo hi : Int) (S : sS) (es : List sE) : Option (sE × sS) := if (sw S && es.all (swE S.2.2.2.1.length)) = true then some (sY S.2.2.2.1.length, (S.1, S.2.1, S.2.2.1, S.2.2.2.1 ++ [(lo, hi)], S.2.2.2.2.1, S.2.2.2.2.2)) else none
section SYM2
variable {reg : Nat → Nat} {gv : Nat → zH → Int} {ρ ρ0 : Nat → Int} {S S' : sS} {loc : zL} {stk : List zV} {h : zH}
theorem sfr_ok {lo hi : Int} {es : List sE} {e : sE} (hf : sfr lo hi S es = some (e, S')) (hM : sMt reg gv ρ ρ0 S loc stk h) {x : Int} (h1 : lo ≤ x) (h2 : x ≤ hi) : ∃ ρ', sMt reg gv ρ' ρ0 S' loc stk h ∧ sv ρ' e = x ∧ (∀ c ∈ es, sv ρ' c = sv ρ c) ∧ S'.1 = S.1 ∧ S'.2.1 = S.2.1 ∧ S'.2.2.1 = S.2.2.1 := by
  unfold sfr at hf
  split at hf
  case isFalse => cases hf
  case isTrue hw =>
    cases hf
    unfold sw at hw
    simp only [Bool.and_eq_true, List.all_eq_true] at hw
    obtain ⟨⟨w1, w2, w3, w4, w5⟩, w6⟩ := hw
    obtain ⟨m1, m2, m3, m4, m5, m6⟩ := hM
    refine ⟨fun j => if j = S.2.2.2.1.length then x else ρ j, ⟨?_, ?_, ?_, ?_, ?_, ?_⟩, ?_, ?_, rfl, rfl, rfl⟩
    · intro p hp
      obtain ⟨v, e1, e2⟩ := m1 p hp
      exact ⟨v, e1, swV_m (w1 p hp) x e2⟩
    · exact sws_m x (List.all_eq_true.mpr w2) m2
    · intro m hm
      have q := m3 m hm
      unfold smm at q ⊢
      rw [swE_v (w3 m hm).1, swE_v (w3 m hm).2]
      exact q
    · intro j b hb
      show b.1 ≤ (if j = _ then x else ρ j) ∧ (if j = _ then x else ρ j) ≤ b.2
      by_cases hj : j = S.2.2.2.1.length
      · rw [if_pos hj]
        have hb : (S.2.2.2.1 ++ [(lo, hi)])[j]? = some b := hb
        rw [hj, List.getElem?_append_right (Nat.le_refl _), Nat.sub_self] at hb
        cases hb
        exact ⟨h1, h2⟩
      · rw [if_neg hj]
        have hb : (S.2.2.2.1 ++ [(lo, hi)])[j]? = some b := hb
        by_cases hl : j < S.2.2.2.1.length
        · rw [List.getElem?_append_left hl] at hb
          exact m4 j b hb
        · rw [List.getElem?_eq_none (by rw [List.length_append, List.length_singleton]; omega)] at hb
          cases hb
    · intro c hc
      rw [swE_v (w4 c hc)]
      exact m5 c hc
    · intro p hp
      rw [swE_v (w5 p hp)]
      exact m6 p hp
    · rw [sY_v]
      exact if_pos rfl
    · intro c hc
      exact swE_v (w6 c hc) ρ x
noncomputable def spr (S : sS) (c : sE) : Bool := if slp S.2.2.2.1 c = true then false else if smk S.2.2.2.2.1 = true then sq1 S.2.2.2.1 S.2.2.2.2.1 c else sp0 S.2.2.2.1 S.2.2.2.2.1 c
theorem spr_le (hM : sMt reg gv ρ ρ0 S loc stk h) {c : sE} (hc : spr S c = true) : sv ρ c ≤ 0 := by
  unfold spr at hc
  split at hc
  · cases hc
  · split at hc
    · exact sq1_le hM.2.2.2.1 hM.2.2.2.2.1 hc
    · exact sp0_le hM.2.2.2.1 hM.2.2.2.2.1 hc
/-- constraints assumed -/
noncomputable def sas (S : sS) (c : sE) : Option sS := if sl0 S.2.2.2.1 c = true then some S else if smk S.2.2.2.2.1 = true then (match sasl S.2.2.2.1 S.2.2.2.2.1 c with
  | some (B, C) => some (S.1, S.2.1, S.2.2.1, B, C, S.2.2.2.2.2)
  | none => none) else if spr S (sac (sng c) 1) = true then none else match sasm S.2.2.2.1 S.2.2.2.2.1 c with
  | some (B, C) => some (S.1, S.2.1, S.2.2.1, B, C, S.2.2.2.2.2)
  | none => none
theorem sas_ok (hM : sMt reg gv ρ ρ0 S loc stk h) {c : sE} (hc : sv ρ c ≤ 0) : ∃ S', sas S c = some S' ∧ sMt reg gv ρ ρ0 S' loc stk h ∧ S'.2.1 = S.2.1 := by
  unfold sas
  split
  case isTrue => exact ⟨S, rfl, hM, rfl⟩
  case isFalse =>
    split
    case isTrue =>
      obtain ⟨m1, m2, m3, m4, m5, m6⟩ := hM
      obtain ⟨B, C, e, hB, hC, -⟩ := sasl_ok m4 m5 hc
      refine ⟨(S.1, S.2.1, S.2.2.1, B, C, S.2.2.2.2.2), ?_, ⟨m1, m2, m3, hB, hC, m6⟩, rfl⟩
      rw [e]
    case isFalse =>
    split
    case isTrue hq =>
      have := spr_le hM hq
      rw [sac_v, sng_v] at this
      omega
    case isFalse =>
      obtain ⟨m1, m2, m3, m4, m5, m6⟩ := hM
      obtain ⟨B, C, e, hB, hC, -⟩ := sasm_ok m4 m5 hc
      refine ⟨(S.1, S.2.1, S.2.2.1, B, C, S.2.2.2.2.2), ?_, ⟨m1, m2, m3, hB, hC, m6⟩, rfl⟩
      rw [e]
noncomputable def sceq (S : sS) (d : sE) : Option sS := match sas S d with
  | some T => sas T (sng d)
  | none => none
noncomputable def scne (S : sS) (d : sE) : Option sS := if spr S (sng d) = true then sas S (sac (sng d) 1) else if spr S d = true then sas S (sac d 1) else some S
theorem sceq_ok (hM : sMt reg gv ρ ρ0 S loc stk h) {d : sE} (hd : sv ρ d = 0) : ∃ S', sceq S d = some S' ∧ sMt reg gv ρ ρ0 S' loc stk h ∧ S'.2.1 = S.2.1 := by
  obtain ⟨S1, e1, h1, k1⟩ := sas_ok hM (c := d) (by omega)
  obtain ⟨S2, e2, h2, k2⟩ := sas_ok h1 (c := sng d) (by rw [sng_v]; omega)
  refine ⟨S2, ?_, h2, k2.trans k1⟩
  unfold sceq
  rw [e1]
  exact e2
theorem scne_ok (hM : sMt reg gv ρ ρ0 S loc stk h) {d : sE} (hd : sv ρ d ≠ 0) : ∃ S', scne S d = some S' ∧ sMt reg gv ρ ρ0 S' loc stk h ∧ S'.2.1 = S.2.1 := by
  unfold scne
  by_cases h1 : spr S (sng d) = true
  · rw [if_pos h1]
    have := spr_le hM h1
    rw [sng_v] at this
    exact sas_ok hM (by rw [sac_v, sng_v]; omega)
  · rw [if_neg h1]
    by_cases h2 : spr S d = true
    · rw [if_pos h2]
      have := spr_le hM h2
      exact sas_ok hM (by rw [sac_v]; omega)
    · rw [if_neg h2]
      exact ⟨S, rfl, hM, rfl⟩
/-- d against 0 -/
noncomputable def scnd (c : ClassFile.Cond) (S : sS) (d : sE) : Option sS := match c with
  | .eq => sceq S d
  | .ne => scne S d
  | .lt => sas S (sac d 1)
  | .ge => sas S (sng d)
  | .gt => sas S (sac (sng d) 1)
  | .le => sas S d
noncomputable def scT (c : ClassFile.Cond) (x : Int) : Prop := match c with
  | .eq => x = 0
  | .ne => x ≠ 0
  | .lt => x < 0
  | .ge => 0 ≤ x
  | .gt => 0 < x
  | .le => x ≤ 0
theorem scnd_ok (c : ClassFile.Cond) (hM : sMt reg gv ρ ρ0 S loc stk h) {d : sE} (hd : scT c (sv ρ d)) : ∃ S', scnd c S d = some S' ∧ sMt reg gv ρ ρ0 S' loc stk h ∧ S'.2.1 = S.2.1 := by
  cases c
  case eq => exact sceq_ok hM hd
  case ne => exact scne_ok hM hd
  case lt => exact sas_ok hM (by rw [sac_v]; have : sv ρ d < 0 := hd; omega)
  case ge => exact sas_ok hM (by rw [sng_v]; have : 0 ≤ sv ρ d := hd; omega)
  case gt => exact sas_ok hM (by rw [sac_v, sng_v]; have : 0 < sv ρ d := hd; omega)
  case le => exact sas_ok hM hd
noncomputable def scn : ClassFile.Cond → ClassFile.Cond
  | .eq => .ne
  | .ne => .eq
  | .lt => .ge
  | .ge => .lt
  | .gt => .le
  | .le => .gt
theorem scn_ok {c : ClassFile.Cond} {x : Int} (hx : ¬ scT c x) : scT (scn c) x := by
  cases c
  case eq => exact hx
  case ne =>
    have hx : ¬ (x ≠ 0) := hx
    show x = 0
    omega
  case lt => exact Int.not_lt.mp hx
  case ge => exact Int.not_le.mp hx
  case gt => exact Int.not_lt.mp hx
  case le => exact Int.not_le.mp hx
noncomputable def sap (S : sS) (a b : sE) : Bool := spr S (sac (sadd a b (-1)) 1) || spr S (sac (sng (sadd a b (-1))) 1)
theorem sap_ne (hM : sMt reg gv ρ ρ0 S loc stk h) {a b : sE} (hc : sap S a b = true) : sv ρ a ≠ sv ρ b := by
  unfold sap at hc
  rcases Bool.or_eq_true_iff.mp hc with q | q
  · have := spr_le hM q
    rw [sac_v, sadd_v] at this
    omega
  · have := spr_le hM q
    rw [sac_v, sng_v, sadd_v] at this
    omega
end SYM2
