/-! calls and ends hold -/
section SXO
variable {tab rin : Nat → (Nat × List Nat) ⊕ (Nat × Nat × List Nat)} {reg : Nat → Nat} {sing : Nat → Bool} {gG : Nat → List (Nat × Nat × Int × Int)} {gu : Nat → sD} {mL : Nat → Nat} {gv : Nat → zH → Int} {ρ ρ0 : Nat → Int} {S T : sS} {loc : zL} {stk : List zV} {h : zH}
theorem sms_len : ∀ {l : List zV} {t : List sV}, sms reg ρ l t → l.length = t.length
  | [], [], _ => rfl
  | _ :: _, _ :: _, hm => by rw [List.length_cons, List.length_cons, sms_len hm.2]
theorem sms_app : ∀ {l l2 : List zV} {t t2 : List sV}, sms reg ρ l t → sms reg ρ l2 t2 → sms reg ρ (l ++ l2) (t ++ t2)
  | [], _, [], _, _, h2 => h2
  | _ :: _, _, _ :: _, _, h1, h2 => ⟨h1.1, sms_app h1.2 h2⟩
theorem sms_split : ∀ {l l2 : List zV} {t t2 : List sV}, l.length = t.length → sms reg ρ (l ++ l2) (t ++ t2) → sms reg ρ l t ∧ sms reg ρ l2 t2
  | [], _, [], _, _, hm => ⟨trivial, hm⟩
  | _ :: _, _, [], _, hl, _ => by cases hl
  | [], _, _ :: _, _, hl, _ => by cases hl
  | v :: l, l2, s :: t, t2, hl, hm => by
    have hm : sm reg ρ v s ∧ sms reg ρ (l ++ l2) (t ++ t2) := hm
    have := sms_split (by simpa using hl) hm.2
    exact ⟨⟨hm.1, this.1⟩, this.2⟩
theorem sms_take : ∀ (k : Nat) {l : List zV} {t : List sV}, sms reg ρ l t → sms reg ρ (l.take k) (t.take k)
  | 0, _, _, _ => trivial
  | _ + 1, [], [], _ => trivial
  | k + 1, _ :: _, _ :: _, hm => ⟨hm.1, sms_take k hm.2⟩
theorem sms_rev : ∀ {l : List zV} {t : List sV}, sms reg ρ l t → sms reg ρ l.reverse t.reverse
  | [], [], _ => trivial
  | v :: l, s :: t, hm => by
    rw [List.reverse_cons, List.reverse_cons]
    exact sms_app (sms_rev hm.2) ⟨hm.1, trivial⟩
theorem slv : ∀ {l : List (Nat × sV)}, (∀ p ∈ l, ∃ v, zget loc p.1 = some v ∧ sm reg ρ v p.2) → ∃ lv, sms reg ρ lv (l.map (·.2)) ∧ ∀ ρ', sms reg ρ' lv (l.map (·.2)) → ∀ p ∈ l, ∃ v, zget loc p.1 = some v ∧ sm reg ρ' v p.2
  | [], _ => ⟨[], trivial, fun _ _ p hp => by cases hp⟩
  | p :: l, hl => by
    obtain ⟨v, e1, e2⟩ := hl p (List.mem_cons_self ..)
    obtain ⟨lv, a, b⟩ := slv (fun q hq => hl q (List.mem_cons_of_mem _ hq))
    refine ⟨v :: lv, ⟨e2, a⟩, fun ρ' hs q hq => ?_⟩
    have hs : sm reg ρ' v p.2 ∧ sms reg ρ' lv (l.map (·.2)) := hs
    rcases List.mem_cons.mp hq with rfl | hq
    · exact ⟨v, e1, hs.1⟩
    · exact b ρ' hs.2 q hq
theorem sent_lo : ∀ {t : List sV} {k : Nat}, ∀ p ∈ sent k t, k ≤ p.1
  | [], _, p, hp => by cases hp
  | v :: t, k, p, hp => by
    unfold sent at hp
    rcases List.mem_cons.mp hp with rfl | hp
    · exact Nat.le_refl _
    · have := sent_lo p hp
      split at this <;> omega
theorem sent_ok : ∀ {l : List zV} {t : List sV} {k : Nat}, sms reg ρ l t → ∀ p ∈ sent k t, ∃ v, zget (zent k l) p.1 = some v ∧ sm reg ρ v p.2
  | [], [], _, _, p, hp => by cases hp
  | v :: l, s :: t, k, hm, p, hp => by
    unfold sent at hp
    rcases List.mem_cons.mp hp with rfl | hp
    · refine ⟨v, ?_, hm.1⟩
      unfold zget zent
      rw [List.find?_cons_of_pos (by simp)]
      rfl
    · have hk : (if slg s = true then k + 2 else k + 1) = (if zcat v = 2 then k + 2 else k + 1) := by
        by_cases hs : slg s = true
        · rw [if_pos hs, if_pos ((sm_cat hm.1).1.mp hs)]
        · rw [if_neg hs, if_neg (fun q => hs ((sm_cat hm.1).1.mpr q))]
      rw [hk] at hp
      obtain ⟨w, w1, w2⟩ := sent_ok hm.2 p hp
      refine ⟨w, ?_, w2⟩
      have hlo := sent_lo p hp
      have hne : ¬ k = p.1 := by split at hlo <;> omega
      unfold zget zent
      rw [List.find?_cons_of_neg (by simpa using hne)]
      exact w1
theorem sen_ok (hM : sMt reg gv ρ ρ0 S loc stk h) {n s : Nat} {f : sE} (hs : sen S n s = some f) : s < n ∧ ρ0 (s + 1) = sv ρ f := by
  unfold sen at hs
  split at hs
  case isFalse => cases hs
  case isTrue hn =>
    cases hf : S.2.2.2.2.2.find? (fun q => q.1 == s + 1) with
    | none => rw [hf] at hs; cases hs
    | some q =>
      rw [hf] at hs
      cases hs
      have h1 : q.1 = s + 1 := by have := List.find?_some hf; simpa using this
      have h2 := hM.2.2.2.2.2 q (List.mem_of_find?_eq_some hf)
      rw [h1] at h2
      exact ⟨hn, h2⟩
theorem srv_ok (hsing : ∀ k k', sing (reg k) = true → reg k' = reg k → k' = k) (hcell : ∀ r, sing r = true → ∃ k, reg k = r) (hG : sG reg gG h) (n : Nat) : ∀ (hv : List (Nat × sE × sE)) (S : sS) (es es' : List sE) (T : sS) (ρ : Nat → Int), sMt reg gv ρ ρ0 S loc stk h → srv sing gG n hv S es = some (es', T) → ∃ ρ', sMt reg gv ρ' ρ0 T loc stk h ∧ (∀ c ∈ es, sv ρ' c = sv ρ c) ∧ (∃ τ, es' = es ++ τ) ∧ (∀ i m, hv[i]? = some m → ∃ e, es'[es.length + i]? = some e ∧ ∀ ρx : Nat → Int, (∀ j, j < n → ρx j = ρ0 (j + 1)) → sv ρx m.2.2 = sv ρ' e → smm reg gv ρx h m)
  | [], S, es, es', T, ρ, hM, e => by
    cases e
    exact ⟨ρ, hM, fun _ _ => rfl, ⟨[], (List.append_nil _).symm⟩, fun i m hm => by cases hm⟩
  | m :: l, S, es, es', T, ρ, hM, e => by
    have step : ∀ (e1 : sE) (S1 : sS) (ρ1 : Nat → Int), sMt reg gv ρ1 ρ0 S1 loc stk h → (∀ c ∈ es, sv ρ1 c = sv ρ c) → srv sing gG n l S1 (es ++ [e1]) = some (es', T) → (∀ ρx : Nat → Int, (∀ j, j < n → ρx j = ρ0 (j + 1)) → sv ρx m.2.2 = sv ρ1 e1 → smm reg gv ρx h m) → ∃ ρ', sMt reg gv ρ' ρ0 T loc stk h ∧ (∀ c ∈ es, sv ρ' c = sv ρ c) ∧ (∃ τ, es' = es ++ τ) ∧ (∀ i w, (m :: l)[i]? = some w → ∃ e, es'[es.length + i]? = some e ∧ ∀ ρx : Nat → Int, (∀ j, j < n → ρx j = ρ0 (j + 1)) → sv ρx w.2.2 = sv ρ' e → smm reg gv ρx h w) := by
      intro e1 S1 ρ1 hM1 hes1 hs hv1
      obtain ⟨ρ', a, b, ⟨τ, c1⟩, d⟩ := srv_ok hsing hcell hG n l S1 (es ++ [e1]) es' T ρ1 hM1 hs
      refine ⟨ρ', a, fun c hc => (b c (List.mem_append_left _ hc)).trans (hes1 c hc), ⟨e1 :: τ, by rw [c1, List.append_assoc]; rfl⟩, ?_⟩
      intro i w hw
      match i, hw with
      | 0, hw =>
        cases hw
        refine ⟨e1, ?_, fun ρx h1 h2 => hv1 ρx h1 (by rw [h2, b e1 (List.mem_append_right _ (List.mem_singleton.mpr rfl))])⟩
        rw [c1, List.append_assoc, List.getElem?_append_right (by omega)]
        simp
      | i + 1, hw =>
        obtain ⟨e2, p1, p2⟩ := d i w hw
        refine ⟨e2, ?_, p2⟩
        rw [← p1, List.length_append, List.length_singleton]
        congr 1
        omega
    unfold srv at e
    by_cases hr : m.1 < 1000
    · rw [if_pos hr] at e
      cases hi : ssu (sen S n) m.2.1 with
      | none => rw [hi] at e; cases e
      | some ix =>
        rw [hi] at e
        simp only at e
        split at e
        case isFalse => cases e
        case isTrue hc =>
          rw [Bool.and_eq_true] at hc
          have hp := spr_le hM hc.2
          rw [sng_v] at hp
          cases hl : sldE sing gG S m.1 ix es with
          | none => rw [hl] at e; cases e
          | some z =>
            obtain ⟨e1, S1⟩ := z
            rw [hl] at e
            obtain ⟨k, hk⟩ := hcell _ hc.1
            rw [← hk] at hl
            obtain ⟨ρ1, m1, m2, -, m3, m4⟩ := sldE_ok hsing hG hM (by rw [hk]; exact hr) (by omega) hl
            refine step e1 S1 ρ1 m1 m4 e (fun ρx h1 h2 => ?_)
            have hix : sv ρx m.2.1 = sv ρ ix := ssu_v (fun s f hf => by
              have := sen_ok hM hf
              rw [h1 s this.1]
              exact this.2) hi
            unfold smm
            rw [if_pos hr, hix, h2]
            refine ⟨by omega, fun k2 hk2 => ?_⟩
            rw [hsing k k2 (by rw [hk]; exact hc.1) (hk2.trans hk.symm)]
            exact m2
    · rw [if_neg hr] at e
      cases hf : S.2.2.1.find? (fun q => q.1 == m.1) with
      | none => rw [hf] at e; cases e
      | some q =>
        rw [hf] at e
        have hm := hM.2.2.1 q (List.mem_of_find?_eq_some hf)
        have hm1 : q.1 = m.1 := by have := List.find?_some hf; simpa using this
        refine step q.2.2 S ρ hM (fun _ _ => rfl) e (fun ρx h1 h2 => ?_)
        unfold smm at hm ⊢
        rw [if_neg (by omega)] at hm
        rw [if_neg hr, h2, ← hm1]
        exact hm
theorem sxb_ok {σ : Nat → Option sE} {n : Nat} {ρx : Nat → Int} (hM : sMt reg gv ρ ρ0 T loc stk h) (hσ : ∀ s f, σ s = some f → ρx s = sv ρ f) : ∀ {l : sB} {k : Nat}, sxb T σ n k l = true → ∀ i b, l[i]? = some b → b.1 ≤ ρx (n + (k + i)) ∧ ρx (n + (k + i)) ≤ b.2
  | [], _, _, i, b, hb => by cases hb
  | b0 :: l, k, hs, i, b, hb => by
    unfold sxb at hs
    rw [Bool.and_eq_true] at hs
    match i, hb with
    | 0, hb =>
      cases hb
      cases he : σ (n + k) with
      | none => rw [he] at hs; cases hs.1
      | some e =>
        rw [he] at hs
        have q := hs.1
        simp only [Bool.and_eq_true] at q
        have p1 := spr_le hM q.1
        have p2 := spr_le hM q.2
        rw [sac_v] at p1
        rw [sac_v, sng_v] at p2
        have := hσ _ _ he
        show b0.1 ≤ ρx (n + k) ∧ ρx (n + k) ≤ b0.2
        omega
    | i + 1, hb =>
      have := sxb_ok hM hσ hs.2 i b hb
      rw [show k + (i + 1) = k + 1 + i by omega]
      exact this
theorem sxe_ok {σ : Nat → Option sE} {ρx : Nat → Int} {val : sE} {o : Option sE} (hσ : ∀ s f, σ s = some f → ρx s = sv ρ f) (hs : sxe T σ val o = true) : ∃ e, o = some e ∧ sv ρx val = sv ρ e := by
  unfold sxe at hs
  cases h1 : ssu σ val with
  | none => rw [h1] at hs; cases hs
  | some d =>
    cases o with
    | none => rw [h1] at hs; cases hs
    | some e =>
      rw [h1] at hs
      have hz := sz0_v (ρ := ρ) hs
      rw [sadd_v] at hz
      refine ⟨e, rfl, ?_⟩
      rw [ssu_v hσ h1]
      omega
theorem sxh_ok {σ : Nat → Option sE} {ρx : Nat → Int} {es : List sE} (hσ : ∀ s f, σ s = some f → ρx s = sv ρ f) : ∀ {l : List (Nat × sE × sE)} {k : Nat}, sxh T σ es k l = true → ∀ i m, l[i]? = some m → ∃ e, es[k + i]? = some e ∧ sv ρx m.2.2 = sv ρ e
  | [], _, _, i, m, hm => by cases hm
  | m0 :: l, k, hs, i, m, hm => by
    unfold sxh at hs
    rw [Bool.and_eq_true] at hs
    match i, hm with
    | 0, hm =>
      cases hm
      exact sxe_ok hσ hs.1
    | i + 1, hm =>
      have := sxh_ok hσ hs.2 i m hm
      rw [show k + (i + 1) = k + 1 + i by omega]
      exact this
theorem sxcore (hsing : ∀ k k', sing (reg k) = true → reg k' = reg k → k' = k) (hcell : ∀ r, sing r = true → ∃ k, reg k = r) (hG : sG reg gG h) {n : Nat} {X : sX} (hM : sMt reg gv ρ ρ0 S loc stk h) {es0 es : List sE} (hs : srv sing gG n X.2.1 S es0 = some (es, T)) (hh : sxh T (sxs T n X.2.2.2.2 es) es es0.length X.2.1 = true) (hb : sxb T (sxs T n X.2.2.2.2 es) n 0 X.2.2.1 = true) (hc : X.2.2.2.1.all (sxc T (sxs T n X.2.2.2.2 es)) = true) : ∃ (ρ1 ρx : Nat → Int), sMt reg gv ρ1 ρ0 T loc stk h ∧ (∀ c ∈ es0, sv ρ1 c = sv ρ c) ∧ (∃ τ, es = es0 ++ τ) ∧ (∀ s f, sxs T n X.2.2.2.2 es s = some f → ρx s = sv ρ1 f) ∧ (∀ j, j < n → ρx j = ρ0 (j + 1)) ∧ (∀ k b, X.2.2.1[k]? = some b → b.1 ≤ ρx (n + k) ∧ ρx (n + k) ≤ b.2) ∧ (∀ c ∈ X.2.2.2.1, sv ρx c ≤ 0) ∧ (∀ m ∈ X.2.1, smm reg gv ρx h m) := by
  obtain ⟨ρ1, a, b, c, d⟩ := srv_ok hsing hcell hG n X.2.1 S es0 es T ρ hM hs
  have hσ : ∀ s f, sxs T n X.2.2.2.2 es s = some f → (fun s => if s < n then ρ0 (s + 1) else match sxs T n X.2.2.2.2 es s with | some f => sv ρ1 f | none => 0) s = sv ρ1 f := fun s f hf => by
    show (if s < n then ρ0 (s + 1) else match sxs T n X.2.2.2.2 es s with | some f => sv ρ1 f | none => 0) = sv ρ1 f
    by_cases hn : s < n
    · rw [if_pos hn]
      unfold sxs at hf
      rw [if_pos hn] at hf
      exact (sen_ok a hf).2
    · rw [if_neg hn, hf]
  have hj : ∀ j, j < n → (fun s => if s < n then ρ0 (s + 1) else match sxs T n X.2.2.2.2 es s with | some f => sv ρ1 f | none => 0) j = ρ0 (j + 1) := fun j hj => if_pos hj
  generalize (fun s => if s < n then ρ0 (s + 1) else match sxs T n X.2.2.2.2 es s with | some f => sv ρ1 f | none => 0) = ρx at hσ hj
  refine ⟨ρ1, ρx, a, b, c, hσ, hj, fun k bb hk => ?_, ?_, ?_⟩
  · have := sxb_ok a hσ hb k bb hk
    rw [Nat.zero_add] at this
    exact this
  · intro cc hcc
    have q := (List.all_eq_true.mp hc) cc hcc
    unfold sxc at q
    cases hd : ssu (sxs T n X.2.2.2.2 es) cc with
    | none => rw [hd] at q; cases q
    | some dd =>
      rw [hd] at q
      rw [ssu_v hσ hd]
      exact spr_le a q
  · intro m hm
    obtain ⟨i, hi⟩ := List.mem_iff_getElem?.mp hm
    obtain ⟨e, e1, e2⟩ := d i m hi
    obtain ⟨e', f1, f2⟩ := sxh_ok hσ hh i m hi
    rw [e1] at f1
    cases f1
    exact e2 ρx hj f2
theorem sxr_ok (hsing : ∀ k k', sing (reg k) = true → reg k' = reg k → k' = k) (hcell : ∀ r, sing r = true → ∃ k, reg k = r) (hG : sG reg gG h) {n : Nat} {X : sX} (hM : sMt reg gv ρ ρ0 S loc stk h) (hx : sxr sing gG n X S = true) : sEx reg gv n X ρ0 stk.head? h ∧ ((∃ x e, stk = [.inl x] ∧ S.2.1 = [.inl e] ∧ x.toInt = sv ρ e) ∨ (∃ y e, stk = [.inr (.inl y)] ∧ S.2.1 = [.inr (.inl e)]) ∨ (stk = [] ∧ S.2.1 = [])) := by
  unfold sxr at hx
  have hs := hM.2.1
  split at hx
  case h_1 e v hst hX =>
    rw [hst] at hs
    obtain ⟨x, r, rfl, e1, e2⟩ := sms_i hs
    have hr : r = [] := List.eq_nil_of_length_eq_zero (by have := sms_len e2; simpa using this)
    subst hr
    cases hsr : srv sing gG n X.2.1 S [e] with
    | none => rw [hsr] at hx; cases hx
    | some z =>
      obtain ⟨es, T⟩ := z
      rw [hsr] at hx
      simp only [Bool.and_eq_true] at hx
      obtain ⟨x1, x2, x3, x4⟩ := hx
      obtain ⟨ρ1, ρx, a1, a2, ⟨τ, a3⟩, a4, a5, a6, a7, a8⟩ := sxcore hsing hcell hG hM hsr x2 x3 x4
      obtain ⟨e', f1, f2⟩ := sxe_ok a4 x1
      rw [a3] at f1
      cases f1
      refine ⟨⟨ρx, a5, a6, a7, a8, ?_⟩, Or.inl ⟨x, e, rfl, hst, e1⟩⟩
      rw [hX]
      show x.toInt = sv ρx v
      rw [f2, a2 e (List.mem_singleton.mpr rfl)]
      exact e1
  case h_2 e t v hst hX =>
    rw [hst] at hs
    obtain ⟨x, r, rfl, e1, e2⟩ := sms_l hs
    have hr : r = [] := List.eq_nil_of_length_eq_zero (by have := sms_len e2; simpa using this)
    subst hr
    cases hsr : srv sing gG n X.2.1 S [e] with
    | none => rw [hsr] at hx; cases hx
    | some z =>
      obtain ⟨es, T⟩ := z
      rw [hsr] at hx
      simp only [Bool.and_eq_true] at hx
      obtain ⟨x1, x2, x3, x4⟩ := hx
      obtain ⟨ρ1, ρx, a1, a2, ⟨τ, a3⟩, a4, a5, a6, a7, a8⟩ := sxcore hsing hcell hG hM hsr x2 x3 x4
      obtain ⟨e', f1, f2⟩ := sxe_ok a4 x1
      rw [a3] at f1
      cases f1
      refine ⟨⟨ρx, a5, a6, a7, a8, ?_⟩, Or.inr (Or.inl ⟨x, e, rfl, hst⟩)⟩
      rw [hX]
      show x.toInt = sv ρx v
      rw [f2, a2 e (List.mem_singleton.mpr rfl)]
      exact e1
  case h_3 hst hX =>
    rw [hst] at hs
    have hr : stk = [] := List.eq_nil_of_length_eq_zero (by have := sms_len hs; simpa using this)
    subst hr
    cases hsr : srv sing gG n X.2.1 S [] with
    | none => rw [hsr] at hx; cases hx
    | some z =>
      obtain ⟨es, T⟩ := z
      rw [hsr] at hx
      simp only [Bool.and_eq_true] at hx
      obtain ⟨x2, x3, x4⟩ := hx
      obtain ⟨ρ1, ρx, a1, a2, ⟨τ, a3⟩, a4, a5, a6, a7, a8⟩ := sxcore hsing hcell hG hM hsr x2 x3 x4
      refine ⟨⟨ρx, a5, a6, a7, a8, ?_⟩, Or.inr (Or.inr ⟨rfl, hst⟩)⟩
      rw [hX]
      trivial
  case h_4 => cases hx
theorem sfn_ok : ∀ (l : sB) (σ σ' : List sE) (S T : sS) (ρ : Nat → Int) (f : Nat → Int), sMt reg gv ρ ρ0 S loc stk h → sfn l σ S = some (σ', T) → (∀ k b, l[k]? = some b → b.1 ≤ f k ∧ f k ≤ b.2) → ∃ ρ', sMt reg gv ρ' ρ0 T loc stk h ∧ (∀ c ∈ σ, sv ρ' c = sv ρ c) ∧ (∃ τ, σ' = σ ++ τ ∧ τ.length = l.length ∧ ∀ k e, τ[k]? = some e → sv ρ' e = f k) ∧ T.2.1 = S.2.1
  | [], σ, σ', S, T, ρ, f, hM, e, hf => by
    cases e
    exact ⟨ρ, hM, fun _ _ => rfl, ⟨[], (List.append_nil _).symm, rfl, fun k e he => by cases he⟩, rfl⟩
  | b :: l, σ, σ', S, T, ρ, f, hM, e, hf => by
    unfold sfn at e
    cases hs : sfr b.1 b.2 S σ with
    | none => rw [hs] at e; cases e
    | some z =>
      obtain ⟨e1, S1⟩ := z
      rw [hs] at e
      have hb := hf 0 b rfl
      obtain ⟨ρ1, a1, a2, a3, -, a4, -⟩ := sfr_ok hs hM hb.1 hb.2
      obtain ⟨ρ', b1, b2, ⟨τ, b3, b4, b5⟩, b6⟩ := sfn_ok l (σ ++ [e1]) σ' S1 T ρ1 (fun k => f (k + 1)) a1 e (fun k bb hk => hf (k + 1) bb hk)
      refine ⟨ρ', b1, fun c hc => (b2 c (List.mem_append_left _ hc)).trans (a3 c hc), ⟨e1 :: τ, by rw [b3, List.append_assoc]; rfl, by rw [List.length_cons, List.length_cons, b4], ?_⟩, b6.trans a4⟩
      intro k ee hk
      match k, hk with
      | 0, hk =>
        cases hk
        rw [b2 e1 (List.mem_append_right _ (List.mem_singleton.mpr rfl))]
        exact a2
      | k + 1, hk => exact b5 k ee hk
theorem scas_ok {σ : List sE} {ρx : Nat → Int} : ∀ (l : List sE) (S : sS) (o : Option sS), sMt reg gv ρ ρ0 S loc stk h → (∀ s f, σ[s]? = some f → ρx s = sv ρ f) → (∀ c ∈ l, sv ρx c ≤ 0) → scas σ l S = some o → ∃ T, o = some T ∧ sMt reg gv ρ ρ0 T loc stk h ∧ T.2.1 = S.2.1
  | [], S, o, hM, _, _, e => by
    cases e
    exact ⟨S, rfl, hM, rfl⟩
  | c :: l, S, o, hM, hσ, hl, e => by
    unfold scas at e
    cases hs : ssu (fun s => σ[s]?) c with
    | none => rw [hs] at e; cases e
    | some d =>
      rw [hs] at e
      have hc := hl c (List.mem_cons_self ..)
      rw [ssu_v (σ := fun s => σ[s]?) (ρ := ρ) hσ hs] at hc
      obtain ⟨S1, e1, e2, e3⟩ := sas_ok hM hc
      simp only [e1] at e
      obtain ⟨T, t1, t2, t3⟩ := scas_ok l S1 o e2 hσ (fun c hc => hl c (List.mem_cons_of_mem _ hc)) e
      exact ⟨T, t1, t2, t3.trans e3⟩
theorem shm_ok {σ : List sE} {ρx : Nat → Int} (hσ : ∀ s f, σ[s]? = some f → ρx s = sv ρ f) : ∀ {l r : List (Nat × sE × sE)}, shm σ l = some r → (∀ m ∈ l, smm reg gv ρx h m) → ∀ m ∈ r, smm reg gv ρ h m
  | [], r, e, _, m, hm => by
    cases e
    cases hm
  | m0 :: l, r, e, hl, m, hm => by
    unfold shm at e
    cases h1 : ssu (fun s => σ[s]?) m0.2.1 with
    | none => rw [h1] at e; cases e
    | some i =>
      cases h2 : ssu (fun s => σ[s]?) m0.2.2 with
      | none => rw [h1, h2] at e; cases e
      | some v =>
        cases h3 : shm σ l with
        | none => rw [h1, h2, h3] at e; cases e
        | some r1 =>
          rw [h1, h2, h3] at e
          cases e
          rcases List.mem_cons.mp hm with rfl | hm
          · have q := hl m0 (List.mem_cons_self ..)
            unfold smm at q ⊢
            rw [ssu_v (σ := fun s => σ[s]?) (ρ := ρ) hσ h1, ssu_v (σ := fun s => σ[s]?) (ρ := ρ) hσ h2] at q
            exact q
          · exact shm_ok hσ h3 (fun m hm => hl m (List.mem_cons_of_mem _ hm)) m hm
theorem srp_ok {σ : List sE} {ρx : Nat → Int} (hσ : ∀ s f, σ[s]? = some f → ρx s = sv ρ f) {o : Option (Nat × sE)} {rv : List sV} {r : Option zV} (e : srp σ o = some rv) (hr : srt reg ρx o r) : sms reg ρ r.toList rv := by
  match o, r, hr with
  | none, none, _ => cases e; trivial
  | some (0, v), some w, hr =>
    unfold srp at e
    simp only at e
    cases h1 : ssu (fun s => σ[s]?) v with
    | none => rw [h1] at e; cases e
    | some d =>
      rw [h1] at e
      cases e
      match w, hr with
      | .inl x, hr =>
        have hr : x.toInt = sv ρx v := hr
        exact ⟨by show x.toInt = _; rw [hr, ssu_v (σ := fun s => σ[s]?) (ρ := ρ) hσ h1], trivial⟩
  | some (t + 1, v), some w, hr =>
    unfold srp at e
    simp only at e
    cases h1 : ssu (fun s => σ[s]?) v with
    | none => rw [h1] at e; cases e
    | some d =>
      rw [h1] at e
      cases e
      match w, hr with
      | .inr (.inl x), hr =>
        have hr : x.toInt = sv ρx v := hr
        exact ⟨by show x.toInt = _; rw [hr, ssu_v (σ := fun s => σ[s]?) (ρ := ρ) hσ h1], trivial⟩
theorem sap2_mem {loc1 : List (Nat × sV)} {rest : List sV} {md : sD} {σ : List sE} {T : sS} : ∀ {Xs : List sX} {L : List sS}, sap2 gu loc1 rest md σ T Xs = some L → ∀ X ∈ Xs, ∃ o, sap1 gu loc1 rest md σ T X = some o ∧ ∀ S', o = some S' → S' ∈ L
  | [], _, _, X, hX => by cases hX
  | X0 :: l, L, e, X, hX => by
    unfold sap2 at e
    cases h1 : sap1 gu loc1 rest md σ T X0 with
    | none => rw [h1] at e; cases e
    | some o =>
      cases h2 : sap2 gu loc1 rest md σ T l with
      | none => rw [h1, h2] at e; cases o <;> cases e
      | some L1 =>
        rw [h1, h2] at e
        match o, e, h1 with
        | some S0, e, h1 =>
          cases e
          rcases List.mem_cons.mp hX with rfl | hX
          · exact ⟨some S0, h1, fun S' hS' => by cases hS'; exact List.mem_cons_self ..⟩
          · obtain ⟨o, o1, o2⟩ := sap2_mem h2 X hX
            exact ⟨o, o1, fun S' hS' => List.mem_cons_of_mem _ (o2 S' hS')⟩
        | none, e, h1 =>
          cases e
          rcases List.mem_cons.mp hX with rfl | hX
          · exact ⟨none, h1, fun S' hS' => by cases hS'⟩
          · exact sap2_mem h2 X hX
end SXO
