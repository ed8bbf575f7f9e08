/-! the engine Q: 80.a.qsym -/
/-! agreements: a fact's number from 2000 on tells a row r (from l + s x on) that agrees with a ghost's row g (from b + t x on) for y places -/
noncomputable def agR (n : Nat) : Nat := (n - 2000) % 1000
noncomputable def agG (n : Nat) : Nat := (n - 2000) / 1000 % 1000
noncomputable def agL (n : Nat) : Int := ((n - 2000) / 1000000 % 1000 : Nat)
noncomputable def agS (n : Nat) : Int := ((n - 2000) / 1000000000 % 1000 : Nat)
noncomputable def agB (n : Nat) : Int := ((n - 2000) / 1000000000000 % 1000000 : Nat)
noncomputable def agT (n : Nat) : Int := ((n - 2000) / 1000000000000000000 % 1000 : Nat)
/-- 0: the numbers are row and length; else they are start and row, and this is the end -/
noncomputable def agK (n : Nat) : Nat := (n - 2000) / 1000000000000000000000
noncomputable def aRw (n : Nat) (x y : Int) : Int := if agK n = 0 then x else y
noncomputable def aFr (n : Nat) (x : Int) : Int := if agK n = 0 then 0 else x
noncomputable def aTo (n : Nat) (y : Int) : Int := if agK n = 0 then y else (agK n : Int)
noncomputable def erw (m : Nat × sE × sE) : sE := if agK m.1 = 0 then m.2.1 else m.2.2
noncomputable def efr (m : Nat × sE × sE) : sE := if agK m.1 = 0 then sK 0 else m.2.1
noncomputable def eto (m : Nat × sE × sE) : sE := if agK m.1 = 0 then m.2.2 else sK (agK m.1 : Int)
noncomputable def aba (m : Nat × sE × sE) : sE := sadd (sK (agL m.1)) (erw m) (agS m.1)
noncomputable def alo (m : Nat × sE × sE) : sE := sadd (aba m) (efr m) 1
noncomputable def ahi (m : Nat × sE × sE) : sE := sadd (aba m) (eto m) 1
/-- the ghost's place beside place e -/
noncomputable def gix (m : Nat × sE × sE) (e : sE) : sE := sac (sadd e (erw m) (agT m.1 - agS m.1)) (agB m.1 - agL m.1)
theorem erw_v (ρ : Nat → Int) (m : Nat × sE × sE) : sv ρ (erw m) = aRw m.1 (sv ρ m.2.1) (sv ρ m.2.2) := by
  unfold erw aRw
  split <;> rfl
theorem efr_v (ρ : Nat → Int) (m : Nat × sE × sE) : sv ρ (efr m) = aFr m.1 (sv ρ m.2.1) := by
  unfold efr aFr
  split
  · exact sK_v ρ 0
  · rfl
theorem eto_v (ρ : Nat → Int) (m : Nat × sE × sE) : sv ρ (eto m) = aTo m.1 (sv ρ m.2.2) := by
  unfold eto aTo
  split
  · rfl
  · exact sK_v ρ _
theorem alo_v (ρ : Nat → Int) (m : Nat × sE × sE) : sv ρ (alo m) = agL m.1 + agS m.1 * aRw m.1 (sv ρ m.2.1) (sv ρ m.2.2) + aFr m.1 (sv ρ m.2.1) := by
  unfold alo aba
  rw [sadd_v, sadd_v, sK_v, erw_v, efr_v]
  omega
theorem ahi_v (ρ : Nat → Int) (m : Nat × sE × sE) : sv ρ (ahi m) = agL m.1 + agS m.1 * aRw m.1 (sv ρ m.2.1) (sv ρ m.2.2) + aTo m.1 (sv ρ m.2.2) := by
  unfold ahi aba
  rw [sadd_v, sadd_v, sK_v, erw_v, eto_v]
  omega
theorem gix_v (ρ : Nat → Int) (m : Nat × sE × sE) (e : sE) : sv ρ (gix m e) = agB m.1 + agT m.1 * aRw m.1 (sv ρ m.2.1) (sv ρ m.2.2) + (sv ρ e - (agL m.1 + agS m.1 * aRw m.1 (sv ρ m.2.1) (sv ρ m.2.2))) := by
  unfold gix
  rw [sac_v, sadd_v, Int.sub_mul, erw_v]
  omega
noncomputable def qag (reg : Nat → Nat) (h : zH) (n : Nat) (x y : Int) : Prop := 0 ≤ agL n + agS n * aRw n x y + aFr n x ∧ 0 ≤ agB n + agT n * aRw n x y + aFr n x ∧ ∃ kg, reg kg = agG n ∧ ∀ k, reg k = agR n → ∀ i : Int, aFr n x ≤ i → i < aTo n y → h.1 k (agL n + agS n * aRw n x y + i).toNat = h.1 kg (agB n + agT n * aRw n x y + i).toNat
theorem qag_st {reg : Nat → Nat} {h h' : zH} {n : Nat} {x y : Int} (hq : qag reg h n x y) (h1 : ∀ (k i : Nat), reg k = agR n → agL n + agS n * aRw n x y + aFr n x ≤ (i : Int) → (i : Int) < agL n + agS n * aRw n x y + aTo n y → h'.1 k i = h.1 k i) (h2 : ∀ (k i : Nat), reg k = agG n → h'.1 k i = h.1 k i) : qag reg h' n x y := by
  obtain ⟨a, b, kg, c, d⟩ := hq
  refine ⟨a, b, kg, c, fun k hk i hi hi2 => ?_⟩
  rw [h1 k _ hk (by omega) (by omega), h2 kg _ c]
  exact d k hk i hi hi2
/-- the agreement at a place -/
theorem qag_at {reg : Nat → Nat} {h : zH} {n : Nat} {x y : Int} (hq : qag reg h n x y) {k : Nat} (hk : reg k = agR n) {e : Int} (h1 : agL n + agS n * aRw n x y + aFr n x ≤ e) (h2 : e < agL n + agS n * aRw n x y + aTo n y) : ∃ kg, reg kg = agG n ∧ 0 ≤ agB n + agT n * aRw n x y + (e - (agL n + agS n * aRw n x y)) ∧ h.1 k e.toNat = h.1 kg (agB n + agT n * aRw n x y + (e - (agL n + agS n * aRw n x y))).toNat := by
  obtain ⟨a, b, kg, c, d⟩ := hq
  refine ⟨kg, c, by omega, ?_⟩
  have := d k hk (e - (agL n + agS n * aRw n x y)) (by omega) (by omega)
  rw [show agL n + agS n * aRw n x y + (e - (agL n + agS n * aRw n x y)) = e by omega] at this
  exact this

section SYM
variable (reg : Nat → Nat) (gv : Nat → Int → Int → zH → Prop) (ρ : Nat → Int)
noncomputable def smmQ (h : zH) (m : Nat × sE × sE) : Prop := if m.1 < 1000 then (0 ≤ sv ρ m.2.1 ∧ ∀ k, reg k = m.1 → (h.1 k (sv ρ m.2.1).toNat).toInt = sv ρ m.2.2) else if m.1 < 2000 then gv (m.1 - 1000) (sv ρ m.2.1) (sv ρ m.2.2) h else qag reg h m.1 (sv ρ m.2.1) (sv ρ m.2.2)
noncomputable def sMtQ (ρ0 : Nat → Int) (S : sS) (loc : zL) (stk : List zV) (h : zH) : Prop :=
  (∀ p ∈ S.1, ∃ v, zget loc p.1 = some v ∧ sm reg ρ v p.2) ∧ sms reg ρ stk S.2.1 ∧ (∀ m ∈ S.2.2.1, smmQ reg gv ρ h m) ∧ sOk S.2.2.2.1 ρ ∧ (∀ c ∈ S.2.2.2.2.1, sv ρ c ≤ 0) ∧ (∀ p ∈ S.2.2.2.2.2, ρ0 p.1 = sv ρ p.2)
end SYM
section SYM2
variable {reg : Nat → Nat} {gv : Nat → Int → Int → zH → Prop} {ρ ρ0 : Nat → Int} {S S' : sS} {loc : zL} {stk : List zV} {h : zH}
theorem sfr_okQ {lo hi : Int} {es : List sE} {e : sE} (hf : sfr lo hi S es = some (e, S')) (hM : sMtQ reg gv ρ ρ0 S loc stk h) {x : Int} (h1 : lo ≤ x) (h2 : x ≤ hi) : ∃ ρ', sMtQ reg gv ρ' ρ0 S' loc stk h ∧ sv ρ' e = x ∧ (∀ c ∈ es, sv ρ' c = sv ρ c) ∧ S'.1 = S.1 ∧ S'.2.1 = S.2.1 ∧ S'.2.2.1 = S.2.2.1 := by
  unfold sfr at hf
  split at hf
  case isFalse => cases hf
  case isTrue hw =>
    cases hf
    unfold sw at hw
    simp only [Bool.and_eq_true, List.all_eq_true] at hw
    obtain ⟨⟨w1, w2, w3, w4, w5⟩, w6⟩ := hw
    obtain ⟨m1, m2, m3, m4, m5, m6⟩ := hM
    refine ⟨fun j => if j = S.2.2.2.1.length then x else ρ j, ⟨?_, ?_, ?_, ?_, ?_, ?_⟩, ?_, ?_, rfl, rfl, rfl⟩
    · intro p hp
      obtain ⟨v, e1, e2⟩ := m1 p hp
      exact ⟨v, e1, swV_m (w1 p hp) x e2⟩
    · exact sws_m x (List.all_eq_true.mpr w2) m2
    · intro m hm
      have q := m3 m hm
      unfold smmQ at q ⊢
      rw [swE_v (w3 m hm).1, swE_v (w3 m hm).2]
      exact q
    · intro j b hb
      show b.1 ≤ (if j = _ then x else ρ j) ∧ (if j = _ then x else ρ j) ≤ b.2
      by_cases hj : j = S.2.2.2.1.length
      · rw [if_pos hj]
        have hb : (S.2.2.2.1 ++ [(lo, hi)])[j]? = some b := hb
        rw [hj, List.getElem?_append_right (Nat.le_refl _), Nat.sub_self] at hb
        cases hb
        exact ⟨h1, h2⟩
      · rw [if_neg hj]
        have hb : (S.2.2.2.1 ++ [(lo, hi)])[j]? = some b := hb
        by_cases hl : j < S.2.2.2.1.length
        · rw [List.getElem?_append_left hl] at hb
          exact m4 j b hb
        · rw [List.getElem?_eq_none (by rw [List.length_append, List.length_singleton]; omega)] at hb
          cases hb
    · intro c hc
      rw [swE_v (w4 c hc)]
      exact m5 c hc
    · intro p hp
      rw [swE_v (w5 p hp)]
      exact m6 p hp
    · rw [sY_v]
      exact if_pos rfl
    · intro c hc
      exact swE_v (w6 c hc) ρ x
theorem spr_leQ (hM : sMtQ reg gv ρ ρ0 S loc stk h) {c : sE} (hc : spr S c = true) : sv ρ c ≤ 0 := by
  unfold spr at hc
  split at hc
  · cases hc
  · split at hc
    · exact sq1_le hM.2.2.2.1 hM.2.2.2.2.1 hc
    · exact sp0_le hM.2.2.2.1 hM.2.2.2.2.1 hc
theorem sas_okQ (hM : sMtQ reg gv ρ ρ0 S loc stk h) {c : sE} (hc : sv ρ c ≤ 0) : ∃ S', sas S c = some S' ∧ sMtQ reg gv ρ ρ0 S' loc stk h ∧ S'.2.1 = S.2.1 := by
  unfold sas
  split
  case isTrue => exact ⟨S, rfl, hM, rfl⟩
  case isFalse =>
    split
    case isTrue =>
      obtain ⟨m1, m2, m3, m4, m5, m6⟩ := hM
      obtain ⟨B, C, e, hB, hC, -⟩ := sasl_ok m4 m5 hc
      refine ⟨(S.1, S.2.1, S.2.2.1, B, C, S.2.2.2.2.2), ?_, ⟨m1, m2, m3, hB, hC, m6⟩, rfl⟩
      rw [e]
    case isFalse =>
    split
    case isTrue hq =>
      have := spr_leQ hM hq
      rw [sac_v, sng_v] at this
      omega
    case isFalse =>
      obtain ⟨m1, m2, m3, m4, m5, m6⟩ := hM
      obtain ⟨B, C, e, hB, hC, -⟩ := sasm_ok m4 m5 hc
      refine ⟨(S.1, S.2.1, S.2.2.1, B, C, S.2.2.2.2.2), ?_, ⟨m1, m2, m3, hB, hC, m6⟩, rfl⟩
      rw [e]
theorem sceq_okQ (hM : sMtQ reg gv ρ ρ0 S loc stk h) {d : sE} (hd : sv ρ d = 0) : ∃ S', sceq S d = some S' ∧ sMtQ reg gv ρ ρ0 S' loc stk h ∧ S'.2.1 = S.2.1 := by
  obtain ⟨S1, e1, h1, k1⟩ := sas_okQ hM (c := d) (by omega)
  obtain ⟨S2, e2, h2, k2⟩ := sas_okQ h1 (c := sng d) (by rw [sng_v]; omega)
  refine ⟨S2, ?_, h2, k2.trans k1⟩
  unfold sceq
  rw [e1]
  exact e2
theorem scne_okQ (hM : sMtQ reg gv ρ ρ0 S loc stk h) {d : sE} (hd : sv ρ d ≠ 0) : ∃ S', scne S d = some S' ∧ sMtQ reg gv ρ ρ0 S' loc stk h ∧ S'.2.1 = S.2.1 := by
  unfold scne
  by_cases h1 : spr S (sng d) = true
  · rw [if_pos h1]
    have := spr_leQ hM h1
    rw [sng_v] at this
    exact sas_okQ hM (by rw [sac_v, sng_v]; omega)
  · rw [if_neg h1]
    by_cases h2 : spr S d = true
    · rw [if_pos h2]
      have := spr_leQ hM h2
      exact sas_okQ hM (by rw [sac_v]; omega)
    · rw [if_neg h2]
      exact ⟨S, rfl, hM, rfl⟩
theorem scnd_okQ (c : ClassFile.Cond) (hM : sMtQ reg gv ρ ρ0 S loc stk h) {d : sE} (hd : scT c (sv ρ d)) : ∃ S', scnd c S d = some S' ∧ sMtQ reg gv ρ ρ0 S' loc stk h ∧ S'.2.1 = S.2.1 := by
  cases c
  case eq => exact sceq_okQ hM hd
  case ne => exact scne_okQ hM hd
  case lt => exact sas_okQ hM (by rw [sac_v]; have : sv ρ d < 0 := hd; omega)
  case ge => exact sas_okQ hM (by rw [sng_v]; have : 0 ≤ sv ρ d := hd; omega)
  case gt => exact sas_okQ hM (by rw [sac_v, sng_v]; have : 0 < sv ρ d := hd; omega)
  case le => exact sas_okQ hM hd
theorem sap_neQ (hM : sMtQ reg gv ρ ρ0 S loc stk h) {a b : sE} (hc : sap S a b = true) : sv ρ a ≠ sv ρ b := by
  unfold sap at hc
  rcases Bool.or_eq_true_iff.mp hc with q | q
  · have := spr_leQ hM q
    rw [sac_v, sadd_v] at this
    omega
  · have := spr_leQ hM q
    rw [sac_v, sng_v, sadd_v] at this
    omega
end SYM2
/-- what a guard covers: ghosts' rows always; an entry with its end before its beginning all places -/
def sgcQ (d : sD) (r : Nat) (i : Int) : Prop := 500 ≤ r ∨ ∃ z ∈ d, r = z.1 ∧ (z.2.2 < z.2.1 ∨ (z.2.1 ≤ i ∧ i ≤ z.2.2))
noncomputable def sovQ (d : sD) (r : Nat) (a b : Int) : Bool := decide (500 ≤ r) || d.any (fun z => decide (z.1 = r) && (decide (z.2.2 < z.2.1) || (decide (z.2.1 ≤ b) && decide (a ≤ z.2.2))))
theorem sovQ_no {d : sD} {r : Nat} {a b : Int} (hn : sovQ d r a b = false) {i : Int} (hz : sgcQ d r i) (ha : a ≤ i) (hb : i ≤ b) : False := by
  have : sovQ d r a b = true := by
    unfold sovQ
    rcases hz with h1 | ⟨z, hz, h1, h2⟩
    · rw [decide_eq_true h1]
      rfl
    · refine (Bool.or_eq_true _ _).mpr (Or.inr (List.any_eq_true.mpr ⟨z, hz, ?_⟩))
      simp only [Bool.and_eq_true, Bool.or_eq_true, decide_eq_true_eq]
      refine ⟨h1.symm, ?_⟩
      rcases h2 with h2 | h2
      · exact Or.inl h2
      · exact Or.inr ⟨by omega, by omega⟩
  rw [hn] at this
  cases this
section SMEM
variable (reg : Nat → Nat) (sing : Nat → Bool) (gG : Nat → List (Nat × Nat × Int × Int)) (gu : Nat → sD)
/-- a told fact hangs on its places alone -/
noncomputable def sGvQ (gv : Nat → Int → Int → zH → Prop) : Prop := ∀ (a : Nat) (x y : Int) (h h' : zH), (∀ k i : Nat, sgcQ (gu a) (reg k) (i : Int) → h.1 k i = h'.1 k i) → gv a x y h → gv a x y h'
/-- a write at e of region r lies apart from an agreement -/
noncomputable def qap (S : sS) (m : Nat × sE × sE) (r : Nat) (e : sE) : Bool := (!decide (agR m.1 = r) || (spr S (sadd (ahi m) e (-1)) || spr S (sac (sadd e (alo m) (-1)) 1))) && !decide (agG m.1 = r)
/-- a row's end whose first place is written -/
noncomputable def qsf (S : sS) (r : Nat) (e : sE) (m : Nat × sE × sE) : Bool := decide (2000 ≤ m.1) && (!decide (agK m.1 = 0) && (decide (agR m.1 = r) && (!decide (agG m.1 = r) && sq0 S.2.2.2.1 S.2.2.2.2.1 (sadd e (alo m) (-1)))))
noncomputable def qdj (S : sS) (m : Nat × sE × sE) (z : Nat × Int × Int) : Bool := (!decide (agR m.1 = z.1) || ((match sUb S.2.2.2.1 (ahi m) with
  | some b => decide (b ≤ z.2.1)
  | none => false) || (match sLb S.2.2.2.1 (alo m) with
  | some a => decide (z.2.2 < a)
  | none => false))) && !decide (agG m.1 = z.1)
/-- a write of what the ghost has just behind an agreement makes it longer -/
noncomputable def qxc (S : sS) (r : Nat) (e v : sE) (m : Nat × sE × sE) : Bool := decide (2000 ≤ m.1) && (decide (agK m.1 = 0) && (sing r && (decide (agR m.1 = r) && (sq0 S.2.2.2.1 S.2.2.2.2.1 (sadd e (ahi m) (-1)) && S.2.2.1.any (fun q => decide (q.1 = agG m.1) && (sq0 S.2.2.2.1 S.2.2.2.2.1 (sadd q.2.1 (gix m e) (-1)) && sq0 S.2.2.2.1 S.2.2.2.2.1 (sadd q.2.2 v (-1))))))))
noncomputable def qxt (S : sS) (r : Nat) (e v : sE) (m : Nat × sE × sE) : Nat × sE × sE := if qxc sing S r e v m = true then (m.1, m.2.1, sac m.2.2 1) else m
/-- an agreement that tells of place e of region r -/
noncomputable def qfa (S : sS) (r : Nat) (e : sE) (m : Nat × sE × sE) : Bool := decide (2000 ≤ m.1) && (sing r && (sing (agG m.1) && (decide (agR m.1 = r) && (spr S (sadd (alo m) e (-1)) && spr S (sac (sadd e (ahi m) (-1)) 1)))))
noncomputable def sldEQ (S : sS) (r : Nat) (e : sE) (es : List sE) : Option (sE × sS) := match S.2.2.1.find? (fun m => decide (m.1 = r) && sq0 S.2.2.2.1 S.2.2.2.2.1 (sadd m.2.1 e (-1))) with
  | some m => some (m.2.2, S)
  | none => match S.2.2.1.find? (qfa sing S r e) with
    | some m => (match S.2.2.1.find? (fun q => decide (q.1 = agG m.1) && sq0 S.2.2.2.1 S.2.2.2.2.1 (sadd q.2.1 (gix m e) (-1))) with
      | some q => some (q.2.2, (S.1, S.2.1, (r, e, q.2.2) :: S.2.2.1, S.2.2.2))
      | none => match sLb S.2.2.2.1 (gix m e), sUb S.2.2.2.1 (gix m e) with
        | some a, some b => (match sfr (sgb gG (agG m.1) a b).1 (sgb gG (agG m.1) a b).2 S (e :: gix m e :: es) with
          | some (v, T) => some (v, (T.1, T.2.1, (r, e, v) :: (agG m.1, gix m e, v) :: T.2.2.1, T.2.2.2))
          | none => none)
        | _, _ => none)
    | none => match sLb S.2.2.2.1 e, sUb S.2.2.2.1 e with
      | some a, some b => (match sfr (sgb gG r a b).1 (sgb gG r a b).2 S (e :: es) with
        | some (v, T) => some (v, if sing r = true then (T.1, T.2.1, (r, e, v) :: T.2.2.1, T.2.2.2) else T)
        | none => none)
      | _, _ => none
noncomputable def sldQ (S : sS) (r : Nat) (e : sE) : Option (sE × sS) := sldEQ sing gG S r e []
/-- what a write at e of region r (places a to b) leaves -/
noncomputable def sk1Q (S : sS) (r : Nat) (e : sE) (a b : Int) : List (Nat × sE × sE) := S.2.2.1.filter (fun m => if m.1 < 1000 then (!decide (m.1 = r) || sap S m.2.1 e) else if m.1 < 2000 then !sovQ (gu (m.1 - 1000)) r a b else qap S m r e)
noncomputable def sstrQ (md : sD) (S : sS) (r : Nat) (e v : sE) : Option sS := match sLb S.2.2.2.1 e, sUb S.2.2.2.1 e with
  | some a, some b => if ((gG r).all (fun z => decide (b < (z.1 : Int)) || (decide ((z.2.1 : Int) < a) || (spr S (sac v (-z.2.2.2)) && spr S (sac (sng v) z.2.2.1)))) && md.any (fun z => decide (z.1 = r) && (decide (z.2.1 ≤ a) && decide (b ≤ z.2.2)))) = true then
      some (S.1, S.2.1, if sing r = true then (r, e, v) :: ((S.2.2.1.filter (qsf S r e)).map (fun m => (m.1, sac m.2.1 1, m.2.2)) ++ (sk1Q gu S r e a b).map (qxt sing S r e v)) else sk1Q gu S r e a b, S.2.2.2) else none
  | _, _ => none
/-- what a change of the places md leaves -/
noncomputable def sklQ (md : sD) (S : sS) : sS := (S.1, S.2.1, S.2.2.1.filter (fun m => md.all (fun z => if m.1 < 1000 then (!decide (m.1 = z.1) || (match sLb S.2.2.2.1 m.2.1, sUb S.2.2.2.1 m.2.1 with
  | some a, some b => decide (b < z.2.1) || decide (z.2.2 < a)
  | _, _ => false)) else if m.1 < 2000 then !sovQ (gu (m.1 - 1000)) z.1 z.2.1 z.2.2 else qdj S m z)), S.2.2.2)
end SMEM
section SMEM2
variable {reg : Nat → Nat} {sing : Nat → Bool} {gG : Nat → List (Nat × Nat × Int × Int)} {gu : Nat → sD} {gv : Nat → Int → Int → zH → Prop} {ρ ρ0 : Nat → Int} {S S' : sS} {loc : zL} {stk : List zV} {h : zH}
theorem sldE_okQ (hsing : ∀ k k', sing (reg k) = true → reg k' = reg k → k' = k) (hG : sG reg gG h) (hM : sMtQ reg gv ρ ρ0 S loc stk h) {k : Nat} (hk : reg k < 1000) {e v : sE} (he : 0 ≤ sv ρ e) {es : List sE} (hl : sldEQ sing gG S (reg k) e es = some (v, S')) : ∃ ρ', sMtQ reg gv ρ' ρ0 S' loc stk h ∧ (h.1 k (sv ρ e).toNat).toInt = sv ρ' v ∧ S'.2.1 = S.2.1 ∧ sv ρ' e = sv ρ e ∧ (∀ c ∈ es, sv ρ' c = sv ρ c) := by
  unfold sldEQ at hl
  cases hf : S.2.2.1.find? (fun m => decide (m.1 = reg k) && sq0 S.2.2.2.1 S.2.2.2.2.1 (sadd m.2.1 e (-1))) with
  | some m =>
    rw [hf] at hl
    cases hl
    have hm := hM.2.2.1 m (List.mem_of_find?_eq_some hf)
    have hp := List.find?_some hf
    simp only [Bool.and_eq_true, decide_eq_true_eq] at hp
    have hz := sq0_v hM.2.2.2.1 hM.2.2.2.2.1 hp.2
    rw [sadd_v] at hz
    unfold smmQ at hm
    rw [if_pos (by omega)] at hm
    refine ⟨ρ, hM, ?_, rfl, rfl, fun _ _ => rfl⟩
    have := hm.2 k hp.1.symm
    rw [show sv ρ m.2.1 = sv ρ e by omega] at this
    exact this
  | none =>
    rw [hf] at hl
    simp only at hl
    cases hfa : S.2.2.1.find? (qfa sing S (reg k) e) with
    | some m =>
      rw [hfa] at hl
      simp only at hl
      have hm := hM.2.2.1 m (List.mem_of_find?_eq_some hfa)
      have hp := List.find?_some hfa
      unfold qfa at hp
      simp only [Bool.and_eq_true, decide_eq_true_eq] at hp
      obtain ⟨p1, p2, p3, p4, p5, p6⟩ := hp
      have q5 := spr_leQ hM p5
      have q6 := spr_leQ hM p6
      rw [sadd_v, alo_v] at q5
      rw [sac_v, sadd_v, ahi_v] at q6
      unfold smmQ at hm
      rw [if_neg (by omega), if_neg (by omega)] at hm
      obtain ⟨kg, g1, g2, g3⟩ := qag_at hm p4.symm (e := sv ρ e) (by omega) (by omega)
      have g4 : agG m.1 < 1000 := Nat.mod_lt _ (by decide)
      cases hfq : S.2.2.1.find? (fun q => decide (q.1 = agG m.1) && sq0 S.2.2.2.1 S.2.2.2.2.1 (sadd q.2.1 (gix m e) (-1))) with
      | some q =>
        rw [hfq] at hl
        cases hl
        have hq := hM.2.2.1 q (List.mem_of_find?_eq_some hfq)
        have hqp := List.find?_some hfq
        simp only [Bool.and_eq_true, decide_eq_true_eq] at hqp
        have hz := sq0_v hM.2.2.2.1 hM.2.2.2.2.1 hqp.2
        rw [sadd_v] at hz
        unfold smmQ at hq
        rw [if_pos (by omega)] at hq
        have hv : (h.1 k (sv ρ e).toNat).toInt = sv ρ q.2.2 := by
          rw [← gix_v] at g3
          rw [g3, ← hq.2 kg (g1.trans hqp.1.symm), show sv ρ (gix m e) = sv ρ q.2.1 by omega]
        refine ⟨ρ, ⟨hM.1, hM.2.1, ?_, hM.2.2.2⟩, hv, rfl, rfl, fun _ _ => rfl⟩
        intro w hw
        rcases List.mem_cons.mp hw with rfl | hw
        · unfold smmQ
          rw [if_pos hk]
          simp only
          refine ⟨he, fun k2 hk2 => ?_⟩
          rw [hsing k k2 p2 hk2]
          exact hv
        · exact hM.2.2.1 w hw
      | none =>
        rw [hfq] at hl
        simp only at hl
        cases ha : sLb S.2.2.2.1 (gix m e) with
        | none => rw [ha] at hl; cases hl
        | some a =>
          cases hb : sUb S.2.2.2.1 (gix m e) with
          | none => rw [ha, hb] at hl; cases hl
          | some b =>
            rw [ha, hb] at hl
            simp only at hl
            cases hfr : sfr (sgb gG (agG m.1) a b).1 (sgb gG (agG m.1) a b).2 S (e :: gix m e :: es) with
            | none => rw [hfr] at hl; cases hl
            | some q =>
              obtain ⟨w, T⟩ := q
              rw [hfr] at hl
              simp only at hl
              have h1 := sLb_le hM.2.2.2.1 ha
              have h2 := sUb_le hM.2.2.2.1 hb
              have gv' := gix_v ρ m e
              rw [← gv'] at g2 g3
              have hbd : (sgb gG (agG m.1) a b).1 ≤ (h.1 kg (sv ρ (gix m e)).toNat).toInt ∧ (h.1 kg (sv ρ (gix m e)).toNat).toInt ≤ (sgb gG (agG m.1) a b).2 := by
                unfold sgb
                cases hg : (gG (agG m.1)).find? (fun z => decide ((z.1 : Int) ≤ a) && decide (b ≤ (z.2.1 : Int))) with
                | none => exact ⟨Int32.le_toInt _, by have := Int32.toInt_lt (h.1 kg (sv ρ (gix m e)).toNat); simp at this ⊢; omega⟩
                | some z =>
                  have hz := List.find?_some hg
                  simp only [Bool.and_eq_true, decide_eq_true_eq] at hz
                  exact hG kg z (by rw [g1]; exact List.mem_of_find?_eq_some hg) _ (by omega) (by omega)
              obtain ⟨ρ', hM', hv, hes, e1, e2, e3⟩ := sfr_okQ hfr hM hbd.1 hbd.2
              have hee := hes e (List.mem_cons_self ..)
              have hge := hes (gix m e) (List.mem_cons_of_mem _ (List.mem_cons_self ..))
              cases hl
              refine ⟨ρ', ⟨hM'.1, hM'.2.1, ?_, hM'.2.2.2⟩, by rw [g3]; exact hv.symm, e2, hee, fun c hc => hes c (List.mem_cons_of_mem _ (List.mem_cons_of_mem _ hc))⟩
              intro u hu
              rcases List.mem_cons.mp hu with rfl | hu
              · unfold smmQ
                rw [if_pos hk]
                simp only
                refine ⟨by omega, fun k2 hk2 => ?_⟩
                rw [hsing k k2 p2 hk2, hee, g3]
                exact hv.symm
              · rcases List.mem_cons.mp hu with rfl | hu
                · unfold smmQ
                  rw [if_pos g4]
                  simp only
                  refine ⟨by omega, fun k2 hk2 => ?_⟩
                  rw [hsing kg k2 (by rw [g1]; exact p3) (hk2.trans g1.symm), hge]
                  exact hv.symm
                · exact hM'.2.2.1 u hu
    | none =>
      rw [hfa] at hl
      cases ha : sLb S.2.2.2.1 e with
      | none => rw [ha] at hl; cases hl
      | some a =>
        cases hb : sUb S.2.2.2.1 e with
        | none => rw [ha, hb] at hl; cases hl
        | some b =>
          rw [ha, hb] at hl
          simp only at hl
          cases hfr : sfr (sgb gG (reg k) a b).1 (sgb gG (reg k) a b).2 S (e :: es) with
          | none => rw [hfr] at hl; cases hl
          | some q =>
            obtain ⟨w, T⟩ := q
            rw [hfr] at hl
            simp only at hl
            have h1 := sLb_le hM.2.2.2.1 ha
            have h2 := sUb_le hM.2.2.2.1 hb
            have hbd : (sgb gG (reg k) a b).1 ≤ (h.1 k (sv ρ e).toNat).toInt ∧ (h.1 k (sv ρ e).toNat).toInt ≤ (sgb gG (reg k) a b).2 := by
              unfold sgb
              cases hg : (gG (reg k)).find? (fun z => decide ((z.1 : Int) ≤ a) && decide (b ≤ (z.2.1 : Int))) with
              | none => exact ⟨Int32.le_toInt _, by have := Int32.toInt_lt (h.1 k (sv ρ e).toNat); simp at this ⊢; omega⟩
              | some z =>
                have hz := List.find?_some hg
                simp only [Bool.and_eq_true, decide_eq_true_eq] at hz
                exact hG k z (List.mem_of_find?_eq_some hg) _ (by omega) (by omega)
            obtain ⟨ρ', hM', hv, hes, e1, e2, e3⟩ := sfr_okQ hfr hM hbd.1 hbd.2
            have hee := hes e (List.mem_cons_self ..)
            cases hl
            refine ⟨ρ', ?_, hv.symm, ?_, hee, fun c hc => hes c (List.mem_cons_of_mem _ hc)⟩
            · split
              case isFalse => exact hM'
              case isTrue hs =>
                obtain ⟨m1, m2, m3, m4, m5, m6⟩ := hM'
                refine ⟨m1, m2, ?_, m4, m5, m6⟩
                intro m hm
                rcases List.mem_cons.mp hm with rfl | hm
                · unfold smmQ
                  rw [if_pos hk]
                  simp only
                  refine ⟨by omega, fun k2 hk2 => ?_⟩
                  rw [hsing k k2 hs hk2, hee]
                  exact hv.symm
                · exact m3 m hm
            · split <;> exact e2
theorem sld_okQ (hsing : ∀ k k', sing (reg k) = true → reg k' = reg k → k' = k) (hG : sG reg gG h) (hM : sMtQ reg gv ρ ρ0 S loc stk h) {k : Nat} (hk : reg k < 1000) {e v : sE} (he : 0 ≤ sv ρ e) (hl : sldQ sing gG S (reg k) e = some (v, S')) : ∃ ρ', sMtQ reg gv ρ' ρ0 S' loc stk h ∧ (h.1 k (sv ρ e).toNat).toInt = sv ρ' v ∧ S'.2.1 = S.2.1 := by
  obtain ⟨ρ', a, b, c, -⟩ := sldE_okQ hsing hG hM hk he hl
  exact ⟨ρ', a, b, c⟩
theorem sstr_okQ (hsing : ∀ k k', sing (reg k) = true → reg k' = reg k → k' = k) (hgv : sGvQ reg gu gv) {md : sD} {h0 : zH} (hG : sG reg gG h) (hF : sF reg md h0 h) (hM : sMtQ reg gv ρ ρ0 S loc stk h) {k : Nat} (hk : reg k < 1000) {e v : sE} {x : Int32} (he : 0 ≤ sv ρ e) (hx : x.toInt = sv ρ v) (hl : sstrQ sing gG gu md S (reg k) e v = some S') : sMtQ reg gv ρ ρ0 S' loc stk (zs h k (sv ρ e).toNat x) ∧ sG reg gG (zs h k (sv ρ e).toNat x) ∧ sF reg md h0 (zs h k (sv ρ e).toNat x) ∧ S'.2.1 = S.2.1 := by
  unfold sstrQ at hl
  cases ha : sLb S.2.2.2.1 e with
  | none => rw [ha] at hl; cases hl
  | some a =>
    cases hb : sUb S.2.2.2.1 e with
    | none => rw [ha, hb] at hl; cases hl
    | some b =>
      rw [ha, hb] at hl
      simp only at hl
      split at hl
      case isFalse => cases hl
      case isTrue hc =>
        cases hl
        rw [Bool.and_eq_true, List.all_eq_true, List.any_eq_true] at hc
        obtain ⟨c1, z0, hz0, c2⟩ := hc
        simp only [Bool.and_eq_true, decide_eq_true_eq] at c2
        have h1 := sLb_le hM.2.2.2.1 ha
        have h2 := sUb_le hM.2.2.2.1 hb
        have hval : ∀ k2 i, (zs h k (sv ρ e).toNat x).1 k2 i = if k2 = k then (if i = (sv ρ e).toNat then x else h.1 k2 i) else h.1 k2 i := fun _ _ => rfl
        refine ⟨?_, ?_, ?_, rfl⟩
        · obtain ⟨m1, m2, m3, m4, m5, m6⟩ := hM
          refine ⟨m1, m2, ?_, m4, m5, m6⟩
          have hold : ∀ m ∈ sk1Q gu S (reg k) e a b, smmQ reg gv ρ (zs h k (sv ρ e).toNat x) m := by
            intro m hm
            unfold sk1Q at hm
            rw [List.mem_filter] at hm
            obtain ⟨hm, hp⟩ := hm
            have q := m3 m hm
            unfold smmQ at q ⊢
            by_cases hr : m.1 < 1000
            · rw [if_pos hr] at q hp ⊢
              refine ⟨q.1, fun k2 hk2 => ?_⟩
              rw [hval]
              by_cases hkk : k2 = k
              · rw [if_pos hkk]
                subst hkk
                rcases Bool.or_eq_true_iff.mp hp with hp | hp
                · simp only [Bool.not_eq_true', decide_eq_false_iff_not] at hp
                  exact absurd hk2.symm hp
                · have := sap_neQ (reg := reg) (gv := gv) (ρ := ρ) (ρ0 := ρ0) (S := S) (loc := loc) (stk := stk) (h := h) ⟨m1, m2, m3, m4, m5, m6⟩ hp
                  rw [if_neg (by have := q.1; omega)]
                  exact q.2 k2 hk2
              · rw [if_neg hkk]
                exact q.2 k2 hk2
            · rw [if_neg hr] at q hp ⊢
              by_cases hr2 : m.1 < 2000
              · rw [if_pos hr2] at q hp ⊢
                simp only [Bool.not_eq_true'] at hp
                refine hgv _ _ _ _ _ (fun k2 i hz => ?_) q
                rw [hval]
                by_cases hkk : k2 = k
                · rw [if_pos hkk]
                  subst hkk
                  by_cases hi : i = (sv ρ e).toNat
                  · exact (sovQ_no hp hz (by omega) (by omega)).elim
                  · rw [if_neg hi]
                · rw [if_neg hkk]
              · rw [if_neg hr2] at q hp ⊢
                have hMM : sMtQ reg gv ρ ρ0 S loc stk h := ⟨m1, m2, m3, m4, m5, m6⟩
                unfold qap at hp
                rw [Bool.and_eq_true, Bool.or_eq_true, Bool.or_eq_true] at hp
                simp only [Bool.not_eq_true', decide_eq_false_iff_not] at hp
                obtain ⟨hp, hpg⟩ := hp
                refine qag_st q (fun k2 i hk2 hi1 hi2 => ?_) (fun k2 i hk2 => ?_)
                · rw [hval]
                  by_cases hkk : k2 = k
                  · rw [if_pos hkk]
                    subst hkk
                    by_cases hi : i = (sv ρ e).toNat
                    · exfalso
                      rcases hp with hp | hp | hp
                      · exact hp hk2.symm
                      · have := spr_leQ hMM hp
                        rw [sadd_v, ahi_v] at this
                        omega
                      · have := spr_leQ hMM hp
                        rw [sac_v, sadd_v, alo_v] at this
                        omega
                    · rw [if_neg hi]
                  · rw [if_neg hkk]
                · rw [hval]
                  by_cases hkk : k2 = k
                  · exact absurd (by rw [← hkk]; exact hk2.symm) hpg
                  · rw [if_neg hkk]
          show ∀ m ∈ (if sing (reg k) = true then _ else _), _
          split
          case isFalse => exact hold
          case isTrue hs =>
            intro m hm
            rcases List.mem_cons.mp hm with rfl | hm
            · unfold smmQ
              rw [if_pos hk]
              simp only
              refine ⟨he, fun k2 hk2 => ?_⟩
              rw [hval, if_pos (hsing k k2 hs hk2), if_pos rfl]
              exact hx
            · rcases List.mem_append.mp hm with hm | hm
              · obtain ⟨w, hw, rfl⟩ := List.mem_map.mp hm
                obtain ⟨hw, hf⟩ := List.mem_filter.mp hw
                unfold qsf at hf
                simp only [Bool.and_eq_true, Bool.not_eq_true', decide_eq_true_eq, decide_eq_false_iff_not] at hf
                obtain ⟨x1, x2, x3, x4, x5⟩ := hf
                have z5 := sq0_v m4 m5 x5
                rw [sadd_v, alo_v] at z5
                have q := m3 w hw
                unfold smmQ at q ⊢
                rw [if_neg (by omega), if_neg (by omega)] at q
                rw [if_neg (by show ¬ w.1 < 1000; omega), if_neg (by show ¬ w.1 < 2000; omega)]
                simp only [sac_v]
                obtain ⟨a1, a2, kg, a3, a4⟩ := q
                simp only [aRw, aFr, aTo, if_neg x2] at a1 a2 a4 z5
                unfold qag
                simp only [aRw, aFr, aTo, if_neg x2]
                refine ⟨by omega, by omega, kg, a3, fun k2 hk2 i hi hi2 => ?_⟩
                rw [hval, hval, if_neg (show ¬ kg = k from fun q => x4 (by rw [← a3, q]))]
                by_cases hkk : k2 = k
                · rw [if_pos hkk, if_neg (by omega)]
                  exact a4 k2 hk2 i (by omega) hi2
                · rw [if_neg hkk]
                  exact a4 k2 hk2 i (by omega) hi2
              obtain ⟨w, hw, rfl⟩ := List.mem_map.mp hm
              have hw2 := hold w hw
              unfold qxt
              split
              case isFalse => exact hw2
              case isTrue hx2 =>
                unfold qxc at hx2
                simp only [Bool.and_eq_true, decide_eq_true_eq, List.any_eq_true] at hx2
                obtain ⟨x1, x0, x2, x3, x4, g, gm, y1, y2, y3⟩ := hx2
                have z4 := sq0_v m4 m5 x4
                have z2 := sq0_v m4 m5 y2
                have z3 := sq0_v m4 m5 y3
                rw [sadd_v, ahi_v] at z4
                rw [sadd_v, gix_v] at z2
                rw [sadd_v] at z3
                have hgm := m3 g gm
                unfold smmQ at hgm hw2 ⊢
                have g4 : agG w.1 < 1000 := Nat.mod_lt _ (by decide)
                rw [if_pos (by omega)] at hgm
                rw [if_neg (by omega), if_neg (by omega)] at hw2
                rw [if_neg (by show ¬ w.1 < 1000; omega), if_neg (by show ¬ w.1 < 2000; omega)]
                obtain ⟨a1, a2, kg, a3, a4⟩ := hw2
                have hgf : ¬ agG w.1 = reg k := by
                  have hw' := hw
                  unfold sk1Q at hw'
                  have hf := (List.mem_filter.mp hw').2
                  simp only [if_neg (show ¬ w.1 < 1000 by omega), if_neg (show ¬ w.1 < 2000 by omega)] at hf
                  unfold qap at hf
                  rw [Bool.and_eq_true] at hf
                  simpa using hf.2
                simp only [aRw, aFr, aTo, if_pos x0] at a1 a2 a4 z4 z2
                unfold qag
                simp only [aRw, aFr, aTo, if_pos x0, sac_v]
                refine ⟨a1, a2, kg, a3, fun k2 hk2 i hi0 hi => ?_⟩
                by_cases hlt : i < sv ρ w.2.2
                · exact a4 k2 hk2 i hi0 hlt
                · have hk3 : k2 = k := hsing k k2 hs (hk2.trans x3)
                  subst hk3
                  have e1 : agL w.1 + agS w.1 * sv ρ w.2.1 + i = sv ρ e := by omega
                  have e2 : agB w.1 + agT w.1 * sv ρ w.2.1 + i = sv ρ g.2.1 := by omega
                  rw [e1, e2, hval, hval, if_pos rfl, if_pos rfl, if_neg (fun q => hgf (by rw [← a3, q]))]
                  refine Int32.toInt_inj.mp ?_
                  rw [hx, hgm.2 kg (a3.trans y1.symm)]
                  omega
        · intro k2 z hz i hi1 hi2
          rw [hval]
          by_cases hkk : k2 = k
          · rw [if_pos hkk]
            subst hkk
            by_cases hi : i = (sv ρ e).toNat
            · rw [if_pos hi]
              have := c1 z hz
              simp only [Bool.or_eq_true, Bool.and_eq_true, decide_eq_true_eq] at this
              rcases this with q | q | ⟨q1, q2⟩
              · omega
              · omega
              · have p1 := spr_leQ hM q1
                have p2 := spr_leQ hM q2
                rw [sac_v] at p1
                rw [sac_v, sng_v] at p2
                omega
            · rw [if_neg hi]
              exact hG k2 z hz i hi1 hi2
          · rw [if_neg hkk]
            exact hG k2 z hz i hi1 hi2
        · intro k2 i hne
          rw [hval] at hne
          by_cases hkk : k2 = k
          · rw [if_pos hkk] at hne
            by_cases hi : i = (sv ρ e).toNat
            · exact ⟨z0, hz0, by rw [hkk]; exact c2.1.symm, by omega, by omega⟩
            · rw [if_neg hi] at hne
              exact hF k2 i hne
          · rw [if_neg hkk] at hne
            exact hF k2 i hne
theorem skl_okQ (hgv : sGvQ reg gu gv) {md : sD} {h' : zH} (hF : sF reg md h h') (hM : sMtQ reg gv ρ ρ0 S loc stk h) : sMtQ reg gv ρ ρ0 (sklQ gu md S) loc stk h' := by
  obtain ⟨m1, m2, m3, m4, m5, m6⟩ := hM
  refine ⟨m1, m2, ?_, m4, m5, m6⟩
  intro m hm
  have hm : m ∈ S.2.2.1.filter _ := hm
  rw [List.mem_filter] at hm
  obtain ⟨hm, hp⟩ := hm
  rw [List.all_eq_true] at hp
  have q := m3 m hm
  unfold smmQ at q ⊢
  by_cases hr : m.1 < 1000
  · rw [if_pos hr] at q ⊢
    refine ⟨q.1, fun k2 hk2 => ?_⟩
    have e1 : h'.1 k2 (sv ρ m.2.1).toNat = h.1 k2 (sv ρ m.2.1).toNat := by
      apply Decidable.byContradiction
      intro hne
      obtain ⟨z, hz, z1, z2, z3⟩ := hF k2 _ hne
      have := hp z hz
      rw [if_pos hr, Bool.or_eq_true_iff] at this
      rcases this with this | this
      · simp only [Bool.not_eq_true', decide_eq_false_iff_not] at this
        exact this (hk2.symm.trans z1)
      · cases ha : sLb S.2.2.2.1 m.2.1 with
        | none => rw [ha] at this; cases this
        | some a =>
          cases hb : sUb S.2.2.2.1 m.2.1 with
          | none => rw [ha, hb] at this; cases this
          | some b =>
            rw [ha, hb] at this
            simp only [Bool.or_eq_true, decide_eq_true_eq] at this
            have l1 := sLb_le m4 ha
            have l2 := sUb_le m4 hb
            have := q.1
            omega
    rw [e1]
    exact q.2 k2 hk2
  · rw [if_neg hr] at q ⊢
    by_cases hr2 : m.1 < 2000
    · rw [if_pos hr2] at q ⊢
      refine hgv _ _ _ _ _ (fun k2 i hz => ?_) q
      apply Decidable.byContradiction
      intro hne
      obtain ⟨y, hy, y1, y2, y3⟩ := hF k2 i (fun e => hne e.symm)
      have := hp y hy
      rw [if_neg hr, if_pos hr2] at this
      simp only [Bool.not_eq_true'] at this
      exact sovQ_no this (by rw [← y1]; exact hz) y2 y3
    · rw [if_neg hr2] at q ⊢
      refine qag_st q (fun k2 i hk2 hi1 hi2 => ?_) (fun k2 i hk2 => ?_)
      · apply Decidable.byContradiction
        intro hne
        obtain ⟨y, hy, y1, y2, y3⟩ := hF k2 i hne
        have := hp y hy
        rw [if_neg hr, if_neg hr2] at this
        unfold qdj at this
        rw [Bool.and_eq_true, Bool.or_eq_true, Bool.or_eq_true] at this
        rcases this.1 with hq | hq | hq
        · simp only [Bool.not_eq_true', decide_eq_false_iff_not] at hq
          exact hq (hk2.symm.trans y1)
        · cases hb : sUb S.2.2.2.1 (ahi m) with
          | none => rw [hb] at hq; cases hq
          | some b =>
            rw [hb] at hq
            have l1 := sUb_le m4 hb
            have hq := of_decide_eq_true hq
            rw [ahi_v] at l1
            omega
        · cases hb : sLb S.2.2.2.1 (alo m) with
          | none => rw [hb] at hq; cases hq
          | some b =>
            rw [hb] at hq
            have l1 := sLb_le m4 hb
            have hq := of_decide_eq_true hq
            rw [alo_v] at l1
            omega
      · apply Decidable.byContradiction
        intro hne
        obtain ⟨y, hy, y1, y2, y3⟩ := hF k2 i hne
        have := hp y hy
        rw [if_neg hr, if_neg hr2] at this
        unfold qdj at this
        rw [Bool.and_eq_true] at this
        have hq := this.2
        simp only [Bool.not_eq_true', decide_eq_false_iff_not] at hq
        exact hq (hk2.symm.trans y1)
end SMEM2
