/-! ends and arrivals: values that are the same by what is known -/
noncomputable def peq (T : sS) (d e : sE) : Bool := sz0 (sadd d e (-1)) || (spr T (sadd d e (-1)) && spr T (sadd e d (-1)))
section PXD
variable (sing : Nat → Bool) (gG : Nat → List (Nat × Nat × Int × Int)) (gu : Nat → sD) (rin : Nat → (Nat × List Nat) ⊕ (Nat × Nat × List Nat)) (mL : Nat → Nat)
noncomputable def pxe (T : sS) (σ : Nat → Option sE) (val : sE) (o : Option sE) : Bool := match ssu σ val, o with
  | some d, some e => peq T d e
  | _, _ => false
noncomputable def pxh (T : sS) (σ : Nat → Option sE) (es : List sE) : Nat → List (Nat × sE × sE) → Bool
  | _, [] => true
  | k, m :: l => pxe T σ m.2.2 es[k]? && pxh T σ es (k + 1) l
/-- the state may end so -/
noncomputable def pxr (n : Nat) (X : sX) (S : sS) : Bool := match S.2.1, X.1 with
  | [.inl e], some (0, v) => (match srv sing gG n X.2.1 S [e] with
    | some (es, T) => pxe T (sxs T n X.2.2.2.2 es) v es[0]? && (pxh T (sxs T n X.2.2.2.2 es) es 1 X.2.1 && (sxb T (sxs T n X.2.2.2.2 es) n 0 X.2.2.1 && X.2.2.2.1.all (sxc T (sxs T n X.2.2.2.2 es))))
    | none => false)
  | [.inr (.inl e)], some (_ + 1, v) => (match srv sing gG n X.2.1 S [e] with
    | some (es, T) => pxe T (sxs T n X.2.2.2.2 es) v es[0]? && (pxh T (sxs T n X.2.2.2.2 es) es 1 X.2.1 && (sxb T (sxs T n X.2.2.2.2 es) n 0 X.2.2.1 && X.2.2.2.1.all (sxc T (sxs T n X.2.2.2.2 es))))
    | none => false)
  | [], none => (match srv sing gG n X.2.1 S [] with
    | some (es, T) => pxh T (sxs T n X.2.2.2.2 es) es 0 X.2.1 && (sxb T (sxs T n X.2.2.2.2 es) n 0 X.2.2.1 && X.2.2.2.1.all (sxc T (sxs T n X.2.2.2.2 es)))
    | none => false)
  | _, _ => false
end PXD
section PXO
variable {tab rin : Nat → (Nat × List Nat) ⊕ (Nat × Nat × List Nat)} {reg : Nat → Nat} {sing : Nat → Bool} {gG : Nat → List (Nat × Nat × Int × Int)} {gu : Nat → sD} {mL : Nat → Nat} {gv : Nat → zH → Int} {ρ ρ0 : Nat → Int} {S T : sS} {loc : zL} {stk : List zV} {h : zH}
theorem peq_v (hMT : sMt reg gv ρ ρ0 T loc stk h) {d e : sE} (hp : peq T d e = true) : sv ρ d = sv ρ e := by
  unfold peq at hp
  rcases Bool.or_eq_true_iff.mp hp with hp | hp
  · have := sz0_v (ρ := ρ) hp
    rw [sadd_v] at this
    omega
  · rw [Bool.and_eq_true] at hp
    have p1 := spr_le hMT hp.1
    have p2 := spr_le hMT hp.2
    rw [sadd_v] at p1 p2
    omega
theorem pxe_ok {σ : Nat → Option sE} {ρx : Nat → Int} {val : sE} {o : Option sE} (hMT : sMt reg gv ρ ρ0 T loc stk h) (hσ : ∀ s f, σ s = some f → ρx s = sv ρ f) (hs : pxe T σ val o = true) : ∃ e, o = some e ∧ sv ρx val = sv ρ e := by
  unfold pxe at hs
  cases h1 : ssu σ val with
  | none => rw [h1] at hs; cases hs
  | some d =>
    cases o with
    | none => rw [h1] at hs; cases hs
    | some e =>
      rw [h1] at hs
      refine ⟨e, rfl, ?_⟩
      rw [ssu_v hσ h1]
      exact peq_v hMT hs
theorem pxh_ok {σ : Nat → Option sE} {ρx : Nat → Int} {es : List sE} (hMT : sMt reg gv ρ ρ0 T loc stk h) (hσ : ∀ s f, σ s = some f → ρx s = sv ρ f) : ∀ {l : List (Nat × sE × sE)} {k : Nat}, pxh T σ es k l = true → ∀ i m, l[i]? = some m → ∃ e, es[k + i]? = some e ∧ sv ρx m.2.2 = sv ρ e
  | [], _, _, i, m, hm => by cases hm
  | m0 :: l, k, hs, i, m, hm => by
    unfold pxh at hs
    rw [Bool.and_eq_true] at hs
    match i, hm with
    | 0, hm =>
      cases hm
      exact pxe_ok hMT hσ hs.1
    | i + 1, hm =>
      have := pxh_ok hMT hσ hs.2 i m hm
      rw [show k + (i + 1) = k + 1 + i by omega]
      exact this
theorem pxcore (hsing : ∀ k k', sing (reg k) = true → reg k' = reg k → k' = k) (hcell : ∀ r, sing r = true → ∃ k, reg k = r) (hG : sG reg gG h) {n : Nat} {X : sX} (hM : sMt reg gv ρ ρ0 S loc stk h) {es0 es : List sE} (hs : srv sing gG n X.2.1 S es0 = some (es, T)) (hh : pxh T (sxs T n X.2.2.2.2 es) es es0.length X.2.1 = true) (hb : sxb T (sxs T n X.2.2.2.2 es) n 0 X.2.2.1 = true) (hc : X.2.2.2.1.all (sxc T (sxs T n X.2.2.2.2 es)) = true) : ∃ (ρ1 ρx : Nat → Int), sMt reg gv ρ1 ρ0 T loc stk h ∧ (∀ c ∈ es0, sv ρ1 c = sv ρ c) ∧ (∃ τ, es = es0 ++ τ) ∧ (∀ s f, sxs T n X.2.2.2.2 es s = some f → ρx s = sv ρ1 f) ∧ (∀ j, j < n → ρx j = ρ0 (j + 1)) ∧ (∀ k b, X.2.2.1[k]? = some b → b.1 ≤ ρx (n + k) ∧ ρx (n + k) ≤ b.2) ∧ (∀ c ∈ X.2.2.2.1, sv ρx c ≤ 0) ∧ (∀ m ∈ X.2.1, smm reg gv ρx h m) := by
  obtain ⟨ρ1, a, b, c, d⟩ := srv_ok hsing hcell hG n X.2.1 S es0 es T ρ hM hs
  have hσ : ∀ s f, sxs T n X.2.2.2.2 es s = some f → (fun s => if s < n then ρ0 (s + 1) else match sxs T n X.2.2.2.2 es s with | some f => sv ρ1 f | none => 0) s = sv ρ1 f := fun s f hf => by
    show (if s < n then ρ0 (s + 1) else match sxs T n X.2.2.2.2 es s with | some f => sv ρ1 f | none => 0) = sv ρ1 f
    by_cases hn : s < n
    · rw [if_pos hn]
      unfold sxs at hf
      rw [if_pos hn] at hf
      exact (sen_ok a hf).2
    · rw [if_neg hn, hf]
  have hj : ∀ j, j < n → (fun s => if s < n then ρ0 (s + 1) else match sxs T n X.2.2.2.2 es s with | some f => sv ρ1 f | none => 0) j = ρ0 (j + 1) := fun j hj => if_pos hj
  generalize (fun s => if s < n then ρ0 (s + 1) else match sxs T n X.2.2.2.2 es s with | some f => sv ρ1 f | none => 0) = ρx at hσ hj
  refine ⟨ρ1, ρx, a, b, c, hσ, hj, fun k bb hk => ?_, ?_, ?_⟩
  · have := sxb_ok a hσ hb k bb hk
    rw [Nat.zero_add] at this
    exact this
  · intro cc hcc
    have q := (List.all_eq_true.mp hc) cc hcc
    unfold sxc at q
    cases hd : ssu (sxs T n X.2.2.2.2 es) cc with
    | none => rw [hd] at q; cases q
    | some dd =>
      rw [hd] at q
      rw [ssu_v hσ hd]
      exact spr_le a q
  · intro m hm
    obtain ⟨i, hi⟩ := List.mem_iff_getElem?.mp hm
    obtain ⟨e, e1, e2⟩ := d i m hi
    obtain ⟨e', f1, f2⟩ := pxh_ok a hσ hh i m hi
    rw [e1] at f1
    cases f1
    exact e2 ρx hj f2
theorem pxr_ok (hsing : ∀ k k', sing (reg k) = true → reg k' = reg k → k' = k) (hcell : ∀ r, sing r = true → ∃ k, reg k = r) (hG : sG reg gG h) {n : Nat} {X : sX} (hM : sMt reg gv ρ ρ0 S loc stk h) (hx : pxr sing gG n X S = true) : sEx reg gv n X ρ0 stk.head? h ∧ ((∃ x e, stk = [.inl x] ∧ S.2.1 = [.inl e] ∧ x.toInt = sv ρ e) ∨ (∃ y e, stk = [.inr (.inl y)] ∧ S.2.1 = [.inr (.inl e)]) ∨ (stk = [] ∧ S.2.1 = [])) := by
  unfold pxr at hx
  have hs := hM.2.1
  split at hx
  case h_1 e v hst hX =>
    rw [hst] at hs
    obtain ⟨x, r, rfl, e1, e2⟩ := sms_i hs
    have hr : r = [] := List.eq_nil_of_length_eq_zero (by have := sms_len e2; simpa using this)
    subst hr
    cases hsr : srv sing gG n X.2.1 S [e] with
    | none => rw [hsr] at hx; cases hx
    | some z =>
      obtain ⟨es, T⟩ := z
      rw [hsr] at hx
      simp only [Bool.and_eq_true] at hx
      obtain ⟨x1, x2, x3, x4⟩ := hx
      obtain ⟨ρ1, ρx, a1, a2, ⟨τ, a3⟩, a4, a5, a6, a7, a8⟩ := pxcore hsing hcell hG hM hsr x2 x3 x4
      obtain ⟨e', f1, f2⟩ := pxe_ok a1 a4 x1
      rw [a3] at f1
      cases f1
      refine ⟨⟨ρx, a5, a6, a7, a8, ?_⟩, Or.inl ⟨x, e, rfl, hst, e1⟩⟩
      rw [hX]
      show x.toInt = sv ρx v
      rw [f2, a2 e (List.mem_singleton.mpr rfl)]
      exact e1
  case h_2 e t v hst hX =>
    rw [hst] at hs
    obtain ⟨x, r, rfl, e1, e2⟩ := sms_l hs
    have hr : r = [] := List.eq_nil_of_length_eq_zero (by have := sms_len e2; simpa using this)
    subst hr
    cases hsr : srv sing gG n X.2.1 S [e] with
    | none => rw [hsr] at hx; cases hx
    | some z =>
      obtain ⟨es, T⟩ := z
      rw [hsr] at hx
      simp only [Bool.and_eq_true] at hx
      obtain ⟨x1, x2, x3, x4⟩ := hx
      obtain ⟨ρ1, ρx, a1, a2, ⟨τ, a3⟩, a4, a5, a6, a7, a8⟩ := pxcore hsing hcell hG hM hsr x2 x3 x4
      obtain ⟨e', f1, f2⟩ := pxe_ok a1 a4 x1
      rw [a3] at f1
      cases f1
      refine ⟨⟨ρx, a5, a6, a7, a8, ?_⟩, Or.inr (Or.inl ⟨x, e, rfl, hst⟩)⟩
      rw [hX]
      show x.toInt = sv ρx v
      rw [f2, a2 e (List.mem_singleton.mpr rfl)]
      exact e1
  case h_3 hst hX =>
    rw [hst] at hs
    have hr : stk = [] := List.eq_nil_of_length_eq_zero (by have := sms_len hs; simpa using this)
    subst hr
    cases hsr : srv sing gG n X.2.1 S [] with
    | none => rw [hsr] at hx; cases hx
    | some z =>
      obtain ⟨es, T⟩ := z
      rw [hsr] at hx
      simp only [Bool.and_eq_true] at hx
      obtain ⟨x2, x3, x4⟩ := hx
      obtain ⟨ρ1, ρx, a1, a2, ⟨τ, a3⟩, a4, a5, a6, a7, a8⟩ := pxcore hsing hcell hG hM hsr x2 x3 x4
      refine ⟨⟨ρx, a5, a6, a7, a8, ?_⟩, Or.inr (Or.inr ⟨rfl, hst⟩)⟩
      rw [hX]
      trivial
  case h_4 => cases hx
end PXO
