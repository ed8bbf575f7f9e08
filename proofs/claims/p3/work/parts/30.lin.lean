/-! linear expressions over signs, their bounds, what follows from them -/
abbrev sE : Type := Int × List (Nat × Int)
abbrev sB : Type := List (Int × Int)
def sT (ρ : Nat → Int) : List (Nat × Int) → Int
  | [] => 0
  | p :: l => p.2 * ρ p.1 + sT ρ l
def sv (ρ : Nat → Int) (e : sE) : Int := e.1 + sT ρ e.2
def sins (s : Nat) (q : Int) : List (Nat × Int) → List (Nat × Int)
  | [] => [(s, q)]
  | p :: l => if s = p.1 then (if p.2 + q = 0 then l else (p.1, p.2 + q) :: l) else p :: sins s q l
theorem sins_v (ρ : Nat → Int) (s : Nat) (q : Int) : ∀ l, sT ρ (sins s q l) = q * ρ s + sT ρ l
  | [] => rfl
  | p :: l => by
    unfold sins
    by_cases h : s = p.1
    · rw [if_pos h]
      by_cases h2 : p.2 + q = 0
      · rw [if_pos h2]
        have e : q = -p.2 := by omega
        show sT ρ l = q * ρ s + (p.2 * ρ p.1 + sT ρ l)
        rw [h, e, Int.neg_mul]
        omega
      · rw [if_neg h2]
        show (p.2 + q) * ρ p.1 + sT ρ l = q * ρ s + (p.2 * ρ p.1 + sT ρ l)
        rw [h, Int.add_mul]
        omega
    · rw [if_neg h]
      show p.2 * ρ p.1 + sT ρ (sins s q l) = q * ρ s + (p.2 * ρ p.1 + sT ρ l)
      rw [sins_v ρ s q l]
      omega
def saddl (k : Int) : List (Nat × Int) → List (Nat × Int) → List (Nat × Int)
  | a, [] => a
  | a, p :: l => saddl k (sins p.1 (k * p.2) a) l
theorem saddl_v (ρ : Nat → Int) (k : Int) : ∀ b a, sT ρ (saddl k a b) = sT ρ a + k * sT ρ b
  | [], a => by show sT ρ a = sT ρ a + k * 0; omega
  | p :: l, a => by
    show sT ρ (saddl k (sins p.1 (k * p.2) a) l) = sT ρ a + k * (p.2 * ρ p.1 + sT ρ l)
    rw [saddl_v ρ k l, sins_v, Int.mul_add, Int.mul_assoc]
    omega
def sadd (a b : sE) (k : Int) : sE := (a.1 + k * b.1, saddl k a.2 b.2)
theorem sadd_v (ρ : Nat → Int) (a b : sE) (k : Int) : sv ρ (sadd a b k) = sv ρ a + k * sv ρ b := by
  show a.1 + k * b.1 + sT ρ (saddl k a.2 b.2) = a.1 + sT ρ a.2 + k * (b.1 + sT ρ b.2)
  rw [saddl_v, Int.mul_add]
  omega
def sK (c : Int) : sE := (c, [])
def sY (s : Nat) : sE := (0, [(s, 1)])
def sac (e : sE) (c : Int) : sE := (e.1 + c, e.2)
def sng (e : sE) : sE := sadd (sK 0) e (-1)
theorem sK_v (ρ : Nat → Int) (c : Int) : sv ρ (sK c) = c := by show c + 0 = c; omega
theorem sY_v (ρ : Nat → Int) (s : Nat) : sv ρ (sY s) = ρ s := by show 0 + (1 * ρ s + 0) = ρ s; omega
theorem sac_v (ρ : Nat → Int) (e : sE) (c : Int) : sv ρ (sac e c) = sv ρ e + c := by show e.1 + c + sT ρ e.2 = e.1 + sT ρ e.2 + c; omega
theorem sng_v (ρ : Nat → Int) (e : sE) : sv ρ (sng e) = - sv ρ e := by
  unfold sng
  rw [sadd_v, sK_v]
  omega
/-- bounds hold -/
def sOk (B : sB) (ρ : Nat → Int) : Prop := ∀ j b, B[j]? = some b → b.1 ≤ ρ j ∧ ρ j ≤ b.2
def sup (B : sB) : List (Nat × Int) → Option Int
  | [] => some 0
  | p :: l => match B[p.1]?, sup B l with
    | some b, some u => some ((if 0 ≤ p.2 then p.2 * b.2 else p.2 * b.1) + u)
    | _, _ => none
def slw (B : sB) : List (Nat × Int) → Option Int
  | [] => some 0
  | p :: l => match B[p.1]?, slw B l with
    | some b, some u => some ((if 0 ≤ p.2 then p.2 * b.1 else p.2 * b.2) + u)
    | _, _ => none
theorem sup_le {B : sB} {ρ : Nat → Int} (hB : sOk B ρ) : ∀ {l : List (Nat × Int)} {u : Int}, sup B l = some u → sT ρ l ≤ u
  | [], u, e => by cases e; exact Int.le_refl 0
  | p :: l, u, e => by
    unfold sup at e
    cases hb : B[p.1]? with
    | none => rw [hb] at e; cases e
    | some b =>
      cases hs : sup B l with
      | none => rw [hb, hs] at e; cases e
      | some v =>
        rw [hb, hs] at e
        have e := Option.some.inj e
        have ih := sup_le hB hs
        obtain ⟨h1, h2⟩ := hB _ _ hb
        show p.2 * ρ p.1 + sT ρ l ≤ u
        by_cases hq : 0 ≤ p.2
        · rw [if_pos hq] at e
          have := Int.mul_le_mul_of_nonneg_left h2 hq
          omega
        · rw [if_neg hq] at e
          have := Int.mul_le_mul_of_nonpos_left (a := p.2) (by omega) h1
          omega
theorem slw_le {B : sB} {ρ : Nat → Int} (hB : sOk B ρ) : ∀ {l : List (Nat × Int)} {u : Int}, slw B l = some u → u ≤ sT ρ l
  | [], u, e => by cases e; exact Int.le_refl 0
  | p :: l, u, e => by
    unfold slw at e
    cases hb : B[p.1]? with
    | none => rw [hb] at e; cases e
    | some b =>
      cases hs : slw B l with
      | none => rw [hb, hs] at e; cases e
      | some v =>
        rw [hb, hs] at e
        have e := Option.some.inj e
        have ih := slw_le hB hs
        obtain ⟨h1, h2⟩ := hB _ _ hb
        show u ≤ p.2 * ρ p.1 + sT ρ l
        by_cases hq : 0 ≤ p.2
        · rw [if_pos hq] at e
          have := Int.mul_le_mul_of_nonneg_left h1 hq
          omega
        · rw [if_neg hq] at e
          have := Int.mul_le_mul_of_nonpos_left (a := p.2) (by omega) h2
          omega
/-- an expression's bounds -/
def sUb (B : sB) (e : sE) : Option Int := (sup B e.2).map (fun u => e.1 + u)
def sLb (B : sB) (e : sE) : Option Int := (slw B e.2).map (fun u => e.1 + u)
theorem sUb_le {B : sB} {ρ : Nat → Int} (hB : sOk B ρ) {e : sE} {u : Int} (h : sUb B e = some u) : sv ρ e ≤ u := by
  unfold sUb at h
  cases hs : sup B e.2 with
  | none => rw [hs] at h; cases h
  | some v =>
    rw [hs] at h
    have h := Option.some.inj h
    have := sup_le hB hs
    show e.1 + sT ρ e.2 ≤ u
    have : e.1 + v = u := h
    omega
theorem sLb_le {B : sB} {ρ : Nat → Int} (hB : sOk B ρ) {e : sE} {u : Int} (h : sLb B e = some u) : u ≤ sv ρ e := by
  unfold sLb at h
  cases hs : slw B e.2 with
  | none => rw [hs] at h; cases h
  | some v =>
    rw [hs] at h
    have h := Option.some.inj h
    have := slw_le hB hs
    show u ≤ e.1 + sT ρ e.2
    have : e.1 + v = u := h
    omega
/-- c is at most 0 by the bounds alone -/
def sl0 (B : sB) (c : sE) : Bool := match sup B c.2 with
  | some u => decide (c.1 + u ≤ 0)
  | none => false
theorem sl0_le {B : sB} {ρ : Nat → Int} (hB : sOk B ρ) {c : sE} (h : sl0 B c = true) : sv ρ c ≤ 0 := by
  unfold sl0 at h
  cases hs : sup B c.2 with
  | none => rw [hs] at h; cases h
  | some v =>
    rw [hs] at h
    have h := of_decide_eq_true h
    have := sup_le hB hs
    show c.1 + sT ρ c.2 ≤ 0
    omega
def scf (s : Nat) : List (Nat × Int) → Int
  | [] => 0
  | p :: l => if p.1 = s then p.2 else scf s l
/-- how often a may be taken from c -/
def slam (c : List (Nat × Int)) : List (Nat × Int) → Nat
  | [] => 0
  | p :: l => if (if 0 < p.2 then decide (p.2 ≤ scf p.1 c) else (decide (p.2 < 0) && decide (scf p.1 c ≤ p.2))) = true then (scf p.1 c / p.2).toNat else slam c l
/-- c less a, as often as it goes -/
def stk1 (c a : sE) : sE := sadd c a (-(slam c.2 a.2 : Int))
/-- c is at most 0 by constraints taken away, n at most -/
def spd (B : sB) (C : List sE) : Nat → sE → Bool
  | 0, c => sl0 B c
  | n + 1, c => sl0 B c || C.any (fun a => decide (0 < slam c.2 a.2) && spd B C n (stk1 c a))
/-- how often a may be taken from c, by c's last sign -/
def slmL (c a : List (Nat × Int)) : Nat := match c.getLast? with
  | none => 0
  | some p => if (if 0 < scf p.1 a then decide (scf p.1 a ≤ p.2) else (decide (scf p.1 a < 0) && decide (p.2 ≤ scf p.1 a))) = true then (p.2 / scf p.1 a).toNat else 0
def stkL (c a : sE) : sE := sadd c a (-(slmL c.2 a.2 : Int))
/-- c is at most 0 by constraints that take away its last sign, n at most -/
def spl7 (B : sB) (C : List sE) : Nat → sE → Bool
  | 0, c => sl0 B c
  | n + 1, c => sl0 B c || C.any (fun a => decide (0 < slmL c.2 a.2) && spl7 B C n (stkL c a))
/-- c is at most 0 by bounds and constraints -/
def sp0 (B : sB) (C : List sE) (c : sE) : Bool := sl0 B c || (C.any (fun a => sl0 B (sadd c a (-1))) || (C.any (fun a => C.any (fun b => sl0 B (sadd (sadd c a (-1)) b (-1)))) || (spl7 B C 10 c || spd B C 3 c)))
theorem stk1_v {ρ : Nat → Int} {c a : sE} (ha : sv ρ a ≤ 0) : sv ρ c ≤ sv ρ (stk1 c a) := by
  unfold stk1
  rw [sadd_v]
  have : (slam c.2 a.2 : Int) * sv ρ a ≤ 0 := Int.mul_nonpos_of_nonneg_of_nonpos (by omega) ha
  rw [Int.neg_mul]
  omega
theorem spd_le {B : sB} {C : List sE} {ρ : Nat → Int} (hB : sOk B ρ) (hC : ∀ c ∈ C, sv ρ c ≤ 0) : ∀ (n : Nat) {c : sE}, spd B C n c = true → sv ρ c ≤ 0
  | 0, c, h => sl0_le hB h
  | n + 1, c, h => by
    unfold spd at h
    rcases Bool.or_eq_true_iff.mp h with h | h
    · exact sl0_le hB h
    · obtain ⟨a, ha, h⟩ := List.any_eq_true.mp h
      rw [Bool.and_eq_true] at h
      exact Int.le_trans (stk1_v (hC a ha)) (spd_le hB hC n h.2)
theorem stkL_v {ρ : Nat → Int} {c a : sE} (ha : sv ρ a ≤ 0) : sv ρ c ≤ sv ρ (stkL c a) := by
  unfold stkL
  rw [sadd_v]
  have : (slmL c.2 a.2 : Int) * sv ρ a ≤ 0 := Int.mul_nonpos_of_nonneg_of_nonpos (by omega) ha
  rw [Int.neg_mul]
  omega
theorem spl7_le {B : sB} {C : List sE} {ρ : Nat → Int} (hB : sOk B ρ) (hC : ∀ c ∈ C, sv ρ c ≤ 0) : ∀ (n : Nat) {c : sE}, spl7 B C n c = true → sv ρ c ≤ 0
  | 0, c, h => sl0_le hB h
  | n + 1, c, h => by
    unfold spl7 at h
    rcases Bool.or_eq_true_iff.mp h with h | h
    · exact sl0_le hB h
    · obtain ⟨a, ha, h⟩ := List.any_eq_true.mp h
      rw [Bool.and_eq_true] at h
      exact Int.le_trans (stkL_v (hC a ha)) (spl7_le hB hC n h.2)
theorem sp0_le {B : sB} {C : List sE} {ρ : Nat → Int} (hB : sOk B ρ) (hC : ∀ c ∈ C, sv ρ c ≤ 0) {c : sE} (h : sp0 B C c = true) : sv ρ c ≤ 0 := by
  unfold sp0 at h
  rcases Bool.or_eq_true_iff.mp h with h | h
  · exact sl0_le hB h
  · rcases Bool.or_eq_true_iff.mp h with h | h
    · obtain ⟨a, ha, h⟩ := List.any_eq_true.mp h
      have h1 := sl0_le hB h
      have h2 := hC a ha
      rw [sadd_v] at h1
      omega
    · rcases Bool.or_eq_true_iff.mp h with h | h
      · obtain ⟨a, ha, h⟩ := List.any_eq_true.mp h
        obtain ⟨b, hb, h⟩ := List.any_eq_true.mp h
        have h1 := sl0_le hB h
        have h2 := hC a ha
        have h3 := hC b hb
        rw [sadd_v, sadd_v] at h1
        omega
      · rcases Bool.or_eq_true_iff.mp h with h | h
        · exact spl7_le hB hC 10 h
        · exact spd_le hB hC 3 h
/-- e is 0 by the bounds and one constraint at most -/
def sq1 (B : sB) (C : List sE) (c : sE) : Bool := sl0 B c || C.any (fun a => sl0 B (sadd c a (-1)))
/-- the last constraint is 0 at most 0: proofs of this state are to be light -/
def smk (C : List sE) : Bool := C.foldl (fun _ a => decide (a.1 = 0) && a.2.isEmpty) false
def slp (B : sB) (c : sE) : Bool := match sLb B c with
  | some l => decide (0 < l)
  | none => false
theorem slp_v {B : sB} {ρ : Nat → Int} (hB : sOk B ρ) {c : sE} (h : slp B c = true) : 0 < sv ρ c := by
  unfold slp at h
  split at h
  case h_1 l hl =>
    have h := of_decide_eq_true h
    have := sLb_le hB hl
    omega
  case h_2 => cases h
def sq0 (B : sB) (C : List sE) (e : sE) : Bool := if e.2.isEmpty = true then decide (e.1 = 0) else if (smk C && (slp B e || slp B (sng e))) = true then false else (sq1 B C e && sq1 B C (sng e))
theorem sq1_le {B : sB} {C : List sE} {ρ : Nat → Int} (hB : sOk B ρ) (hC : ∀ c ∈ C, sv ρ c ≤ 0) {c : sE} (h : sq1 B C c = true) : sv ρ c ≤ 0 := by
  unfold sq1 at h
  rcases Bool.or_eq_true_iff.mp h with h | h
  · exact sl0_le hB h
  · obtain ⟨a, ha, h⟩ := List.any_eq_true.mp h
    have h1 := sl0_le hB h
    have h2 := hC a ha
    rw [sadd_v] at h1
    omega
theorem sq0_v {B : sB} {C : List sE} {ρ : Nat → Int} (hB : sOk B ρ) (hC : ∀ c ∈ C, sv ρ c ≤ 0) {e : sE} (h : sq0 B C e = true) : sv ρ e = 0 := by
  unfold sq0 at h
  split at h
  case isTrue q =>
    rw [List.isEmpty_iff] at q
    have h := of_decide_eq_true h
    show e.1 + sT ρ e.2 = 0
    rw [q, h]
    rfl
  case isFalse =>
    split at h
    case isTrue => cases h
    case isFalse =>
    rw [Bool.and_eq_true] at h
    have h1 := sq1_le hB hC h.1
    have h2 := sq1_le hB hC h.2
    rw [sng_v] at h2
    omega
/-- one sign's bounds by c at most 0; none: there is no such value -/
def sref1 (B : sB) (c : sE) (p : Nat × Int) : Option sB := match slw B (sins p.1 (-p.2) c.2), B[p.1]? with
  | some r, some b =>
    if 0 < p.2 then (if b.1 ≤ min b.2 ((-(c.1 + r)) / p.2) then some (B.set p.1 (b.1, min b.2 ((-(c.1 + r)) / p.2))) else none)
    else if p.2 < 0 then (if max b.1 (-((-(c.1 + r)) / (-p.2))) ≤ b.2 then some (B.set p.1 (max b.1 (-((-(c.1 + r)) / (-p.2))), b.2)) else none)
    else some B
  | _, _ => some B
theorem sset_ok {B : sB} {ρ : Nat → Int} (hB : sOk B ρ) {s : Nat} {b : Int × Int} (h : b.1 ≤ ρ s ∧ ρ s ≤ b.2) : sOk (B.set s b) ρ := by
  intro j b2 e
  rw [List.getElem?_set] at e
  by_cases hj : s = j
  · rw [if_pos hj] at e
    split at e
    · cases e; subst hj; exact h
    · cases e
  · rw [if_neg hj] at e
    exact hB j b2 e
theorem sref1_ok {B : sB} {ρ : Nat → Int} (hB : sOk B ρ) {c : sE} (hc : sv ρ c ≤ 0) (p : Nat × Int) : ∃ B', sref1 B c p = some B' ∧ sOk B' ρ ∧ B'.length = B.length := by
  unfold sref1
  cases hr : slw B (sins p.1 (-p.2) c.2) with
  | none => exact ⟨B, rfl, hB, rfl⟩
  | some r =>
    cases hb : B[p.1]? with
    | none => exact ⟨B, rfl, hB, rfl⟩
    | some b =>
      have h1 := slw_le hB hr
      rw [sins_v, Int.neg_mul] at h1
      have h2 : c.1 + sT ρ c.2 ≤ 0 := hc
      obtain ⟨b1, b2⟩ := hB _ _ hb
      by_cases hp : 0 < p.2
      · have h3 : ρ p.1 ≤ (-(c.1 + r)) / p.2 := by
          rw [Int.le_ediv_iff_mul_le hp, Int.mul_comm]
          omega
        have h4 : ρ p.1 ≤ min b.2 ((-(c.1 + r)) / p.2) := Int.le_min.mpr ⟨b2, h3⟩
        simp only [if_pos hp]
        rw [if_pos (Int.le_trans b1 h4)]
        exact ⟨_, rfl, sset_ok hB ⟨b1, h4⟩, List.length_set ..⟩
      · by_cases hn : p.2 < 0
        · have h3 : -(ρ p.1) ≤ (-(c.1 + r)) / (-p.2) := by
            rw [Int.le_ediv_iff_mul_le (by omega), Int.mul_comm, Int.neg_mul_neg]
            omega
          have h4 : max b.1 (-((-(c.1 + r)) / (-p.2))) ≤ ρ p.1 := Int.max_le.mpr ⟨b1, by omega⟩
          simp only [if_neg hp, if_pos hn]
          rw [if_pos (Int.le_trans h4 b2)]
          exact ⟨_, rfl, sset_ok hB ⟨h4, b2⟩, List.length_set ..⟩
        · simp only [if_neg hp, if_neg hn]
          exact ⟨B, rfl, hB, rfl⟩
def srefs (c : sE) : List (Nat × Int) → sB → Option sB
  | [], B => some B
  | p :: l, B => match sref1 B c p with
    | some B' => srefs c l B'
    | none => none
theorem srefs_ok {ρ : Nat → Int} {c : sE} (hc : sv ρ c ≤ 0) : ∀ (l : List (Nat × Int)) {B : sB}, sOk B ρ → ∃ B', srefs c l B = some B' ∧ sOk B' ρ ∧ B'.length = B.length
  | [], B, hB => ⟨B, rfl, hB, rfl⟩
  | p :: l, B, hB => by
    obtain ⟨B1, e1, h1, l1⟩ := sref1_ok hB hc p
    obtain ⟨B2, e2, h2, l2⟩ := srefs_ok hc l h1
    refine ⟨B2, ?_, h2, l2.trans l1⟩
    unfold srefs
    rw [e1]
    exact e2
/-- c at most 0 is assumed; none: it can't be -/
def sasm (B : sB) (C : List sE) (c : sE) : Option (sB × List sE) :=
  if sl0 B c = true then some (B, C)
  else match srefs c c.2 B with
    | none => none
    | some B' => if c.2.length = 0 then none else some (B', if c.2.length ≤ 1 then C else c :: C)
theorem sasm_ok {B : sB} {C : List sE} {ρ : Nat → Int} (hB : sOk B ρ) (hC : ∀ c ∈ C, sv ρ c ≤ 0) {c : sE} (hc : sv ρ c ≤ 0) : ∃ B' C', sasm B C c = some (B', C') ∧ sOk B' ρ ∧ (∀ c ∈ C', sv ρ c ≤ 0) ∧ B'.length = B.length := by
  unfold sasm
  by_cases h0 : sl0 B c = true
  · rw [if_pos h0]
    exact ⟨B, C, rfl, hB, hC, rfl⟩
  · rw [if_neg h0]
    obtain ⟨B1, e1, h1, l1⟩ := srefs_ok hc c.2 hB
    rw [e1]
    have hne : ¬ c.2.length = 0 := fun hz => by
      have hz := List.eq_nil_of_length_eq_zero hz
      apply h0
      unfold sl0
      have h2 : c.1 + sT ρ c.2 ≤ 0 := hc
      rw [hz] at h2 ⊢
      have h3 : c.1 + 0 ≤ 0 := h2
      exact decide_eq_true h3
    simp only [if_neg hne]
    refine ⟨B1, _, rfl, h1, ?_, l1⟩
    split
    · exact hC
    · intro x hx
      rcases List.mem_cons.mp hx with rfl | hx
      · exact hc
      · exact hC x hx
/-- the same, lightly -/
def sasl (B : sB) (C : List sE) (c : sE) : Option (sB × List sE) :=
  if slp B c = true then none
  else if C.any (fun a => sl0 B (sadd c a (-1))) = true then (match srefs c c.2 B with
    | none => none
    | some B' => if C.any (slp B') = true then none else some (B', C))
  else if C.any (fun a => sl0 B (sadd (sac (sng c) 1) a (-1))) = true then none
  else match srefs c c.2 B with
    | none => none
    | some B' => if C.any (slp B') = true then none else some (B', if c.2.length ≤ 1 then C else c :: C)
theorem sasl_ok {B : sB} {C : List sE} {ρ : Nat → Int} (hB : sOk B ρ) (hC : ∀ c ∈ C, sv ρ c ≤ 0) {c : sE} (hc : sv ρ c ≤ 0) : ∃ B' C', sasl B C c = some (B', C') ∧ sOk B' ρ ∧ (∀ c ∈ C', sv ρ c ≤ 0) ∧ B'.length = B.length := by
  obtain ⟨B1, e1, h1, l1⟩ := srefs_ok hc c.2 hB
  have n1 : ¬ slp B c = true := fun q => by
    have := slp_v hB q
    omega
  have n2 : ¬ C.any (slp B1) = true := fun q => by
    obtain ⟨a, ha, q⟩ := List.any_eq_true.mp q
    have := slp_v h1 q
    have := hC a ha
    omega
  have n3 : ¬ C.any (fun a => sl0 B (sadd (sac (sng c) 1) a (-1))) = true := fun q => by
    obtain ⟨a, ha, q⟩ := List.any_eq_true.mp q
    have q := sl0_le hB q
    have := hC a ha
    rw [sadd_v, sac_v, sng_v] at q
    omega
  unfold sasl
  rw [if_neg n1, if_neg n3]
  split
  case isTrue =>
    rw [e1]
    simp only [if_neg n2]
    exact ⟨B1, C, rfl, h1, hC, l1⟩
  case isFalse =>
    rw [e1]
    simp only [if_neg n2]
    refine ⟨B1, _, rfl, h1, ?_, l1⟩
    split
    · exact hC
    · intro x hx
      rcases List.mem_cons.mp hx with rfl | hx
      · exact hc
      · exact hC x hx
