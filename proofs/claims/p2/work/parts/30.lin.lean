/-! linear expressions over signs, their bounds, what follows from them -/
abbrev sE : Type := Int × List (Nat × Int)
abbrev sB : Type := List (Int × Int)
def sT (ρ : Nat → Int) : List (Nat × Int) → Int
  | [] => 0
  | p :: l => p.2 * ρ p.1 + sT ρ l
def sv (ρ : Nat → Int) (e : sE) : Int := e.1 + sT ρ e.2
theorem bRec {α : Type} (x y : α) (b : Bool) : (Bool.rec (motive := fun _ => α) x y b : α) = if b = true then y else x := by cases b <;> rfl
noncomputable def subN (m n : Nat) : Int := Bool.rec (motive := fun _ => Int) (Int.negSucc (Nat.sub (Nat.sub n m) 1)) (Int.ofNat (Nat.sub m n)) (Nat.ble n m)
theorem subN_e (m n : Nat) : subN m n = (m : Int) - (n : Int) := by
  unfold subN
  rw [bRec]
  by_cases h : n ≤ m
  · rw [if_pos (Nat.ble_eq_true_of_le h)]
    show ((m - n : Nat) : Int) = (m : Int) - (n : Int)
    omega
  · rw [if_neg (fun q => h (Nat.le_of_ble_eq_true q))]
    show Int.negSucc (n - m - 1) = (m : Int) - (n : Int)
    rw [Int.negSucc_eq]
    omega
noncomputable def addI (x y : Int) : Int := Int.rec (motive := fun _ => Int) (fun m => Int.rec (motive := fun _ => Int) (fun n => Int.ofNat (Nat.add m n)) (fun n => subN m (Nat.succ n)) y) (fun m => Int.rec (motive := fun _ => Int) (fun n => subN n (Nat.succ m)) (fun n => Int.negSucc (Nat.succ (Nat.add m n))) y) x
theorem addI_e (x y : Int) : addI x y = x + y := by
  cases x with
  | ofNat m => cases y with
    | ofNat n => rfl
    | negSucc n =>
      show subN m (Nat.succ n) = (m : Int) + Int.negSucc n
      rw [subN_e, Int.negSucc_eq]
      omega
  | negSucc m => cases y with
    | ofNat n =>
      show subN n (Nat.succ m) = Int.negSucc m + (n : Int)
      rw [subN_e, Int.negSucc_eq]
      omega
    | negSucc n => rfl
noncomputable def negN (n : Nat) : Int := Nat.rec (motive := fun _ => Int) (Int.ofNat 0) (fun k _ => Int.negSucc k) n
theorem negN_e (n : Nat) : negN n = -(n : Int) := by cases n <;> rfl
noncomputable def mulI (x y : Int) : Int := Int.rec (motive := fun _ => Int) (fun m => Int.rec (motive := fun _ => Int) (fun n => Int.ofNat (Nat.mul m n)) (fun n => negN (Nat.mul m (Nat.succ n))) y) (fun m => Int.rec (motive := fun _ => Int) (fun n => negN (Nat.mul (Nat.succ m) n)) (fun n => Int.ofNat (Nat.mul (Nat.succ m) (Nat.succ n))) y) x
theorem mulI_e (x y : Int) : mulI x y = x * y := by
  cases x with
  | ofNat m => cases y with
    | ofNat n => rfl
    | negSucc n =>
      show negN (m * Nat.succ n) = Int.ofNat m * Int.negSucc n
      rw [negN_e]
      rfl
  | negSucc m => cases y with
    | ofNat n =>
      show negN (Nat.succ m * n) = Int.negSucc m * Int.ofNat n
      rw [negN_e]
      rfl
    | negSucc n => rfl
noncomputable def iszR (x : Int) : Bool := Int.rec (motive := fun _ => Bool) (fun n => Nat.beq n 0) (fun _ => false) x
theorem iszR_e (x : Int) : iszR x = true ↔ x = 0 := by
  cases x with
  | ofNat n =>
    refine ⟨fun h => ?_, fun h => ?_⟩
    · have h : Nat.beq n 0 = true := h
      rw [Nat.eq_of_beq_eq_true h]
      rfl
    · have h : n = 0 := Int.ofNat.inj h
      rw [h]
      rfl
  | negSucc n => exact ⟨fun h => (by cases h), fun h => (by cases h)⟩
noncomputable def leR (x : Int) : Bool := Int.rec (motive := fun _ => Bool) (fun n => Nat.beq n 0) (fun _ => true) x
theorem leR_e (x : Int) : leR x = true ↔ x ≤ 0 := by
  cases x with
  | ofNat n =>
    refine ⟨fun h => ?_, fun h => ?_⟩
    · have h : Nat.beq n 0 = true := h
      rw [Nat.eq_of_beq_eq_true h]
      decide
    · have h : (n : Int) ≤ 0 := h
      have h : n = 0 := by omega
      rw [h]
      rfl
  | negSucc n =>
    refine ⟨fun _ => ?_, fun _ => rfl⟩
    have := Int.negSucc_lt_zero n
    omega
noncomputable def gtR (x : Int) : Bool := Int.rec (motive := fun _ => Bool) (fun n => Nat.ble 1 n) (fun _ => false) x
theorem gtR_e (x : Int) : gtR x = true ↔ 0 < x := by
  cases x with
  | ofNat n =>
    refine ⟨fun h => ?_, fun h => ?_⟩
    · have h : 1 ≤ n := Nat.le_of_ble_eq_true h
      show 0 < (n : Int)
      omega
    · have h : 0 < (n : Int) := h
      exact Nat.ble_eq_true_of_le (by omega)
  | negSucc n =>
    refine ⟨fun h => (by cases h), fun h => ?_⟩
    have := Int.negSucc_lt_zero n
    omega
noncomputable def sany (C : List sE) (f : sE → Bool) : Bool := List.rec (motive := fun _ => Bool) false (fun a _ ih => Bool.rec (motive := fun _ => Bool) ih true (f a)) C
theorem sany_e (f : sE → Bool) : ∀ C : List sE, sany C f = C.any f
  | [] => rfl
  | a :: C => by
    show (Bool.rec (motive := fun _ => Bool) (sany C f) true (f a) : Bool) = (f a || C.any f)
    rw [bRec, sany_e f C]
    cases f a <;> rfl
noncomputable def sins (s : Nat) (q : Int) (l : List (Nat × Int)) : List (Nat × Int) :=
  List.rec (motive := fun _ => List (Nat × Int)) [(s, q)] (fun p l ih => Bool.rec (motive := fun _ => List (Nat × Int)) (p :: ih) (Bool.rec (motive := fun _ => List (Nat × Int)) ((p.1, addI p.2 q) :: l) l (iszR (addI p.2 q))) (Nat.beq s p.1)) l
theorem sins_c (s : Nat) (q : Int) (p : Nat × Int) (l : List (Nat × Int)) : sins s q (p :: l) = if s = p.1 then (if p.2 + q = 0 then l else (p.1, p.2 + q) :: l) else p :: sins s q l := by
  show (Bool.rec (motive := fun _ => List (Nat × Int)) (p :: sins s q l) (Bool.rec (motive := fun _ => List (Nat × Int)) ((p.1, addI p.2 q) :: l) l (iszR (addI p.2 q))) (Nat.beq s p.1) : List (Nat × Int)) = _
  rw [bRec, bRec, addI_e]
  by_cases h : s = p.1
  · have hb : Nat.beq s p.1 = true := by rw [h]; exact Nat.beq_refl p.1
    rw [if_pos hb, if_pos h]
    by_cases h2 : p.2 + q = 0
    · rw [if_pos ((iszR_e _).mpr h2), if_pos h2]
    · rw [if_neg (fun z => h2 ((iszR_e _).mp z)), if_neg h2]
  · rw [if_neg (fun z => h (Nat.eq_of_beq_eq_true z)), if_neg h]
theorem sins_v (ρ : Nat → Int) (s : Nat) (q : Int) : ∀ l, sT ρ (sins s q l) = q * ρ s + sT ρ l
  | [] => rfl
  | p :: l => by
    rw [sins_c]
    by_cases h : s = p.1
    · rw [if_pos h]
      by_cases h2 : p.2 + q = 0
      · rw [if_pos h2]
        have e : q = -p.2 := by omega
        show sT ρ l = q * ρ s + (p.2 * ρ p.1 + sT ρ l)
        rw [h, e, Int.neg_mul]
        omega
      · rw [if_neg h2]
        show (p.2 + q) * ρ p.1 + sT ρ l = q * ρ s + (p.2 * ρ p.1 + sT ρ l)
        rw [h, Int.add_mul]
        omega
    · rw [if_neg h]
      show p.2 * ρ p.1 + sT ρ (sins s q l) = q * ρ s + (p.2 * ρ p.1 + sT ρ l)
      rw [sins_v ρ s q l]
      omega
noncomputable def saddl (k : Int) (a b : List (Nat × Int)) : List (Nat × Int) := List.rec (motive := fun _ => List (Nat × Int) → List (Nat × Int)) (fun a => a) (fun p _ ih a => ih (sins p.1 (mulI k p.2) a)) b a
theorem saddl_v (ρ : Nat → Int) (k : Int) : ∀ b a, sT ρ (saddl k a b) = sT ρ a + k * sT ρ b
  | [], a => by show sT ρ a = sT ρ a + k * 0; omega
  | p :: l, a => by
    show sT ρ (saddl k (sins p.1 (mulI k p.2) a) l) = sT ρ a + k * (p.2 * ρ p.1 + sT ρ l)
    rw [saddl_v ρ k l, sins_v, mulI_e, Int.mul_add, Int.mul_assoc]
    omega
noncomputable def sadd (a b : sE) (k : Int) : sE := (addI a.1 (mulI k b.1), saddl k a.2 b.2)
theorem sadd_v (ρ : Nat → Int) (a b : sE) (k : Int) : sv ρ (sadd a b k) = sv ρ a + k * sv ρ b := by
  show addI a.1 (mulI k b.1) + sT ρ (saddl k a.2 b.2) = a.1 + sT ρ a.2 + k * (b.1 + sT ρ b.2)
  rw [addI_e, mulI_e, saddl_v, Int.mul_add]
  omega
noncomputable def sK (c : Int) : sE := (c, [])
noncomputable def sY (s : Nat) : sE := (0, [(s, 1)])
noncomputable def sac (e : sE) (c : Int) : sE := (addI e.1 c, e.2)
noncomputable def sng (e : sE) : sE := sadd (sK 0) e (-1)
theorem sK_v (ρ : Nat → Int) (c : Int) : sv ρ (sK c) = c := by show c + 0 = c; omega
theorem sY_v (ρ : Nat → Int) (s : Nat) : sv ρ (sY s) = ρ s := by show 0 + (1 * ρ s + 0) = ρ s; omega
theorem sac_v (ρ : Nat → Int) (e : sE) (c : Int) : sv ρ (sac e c) = sv ρ e + c := by show addI e.1 c + sT ρ e.2 = e.1 + sT ρ e.2 + c; rw [addI_e]; omega
theorem sng_v (ρ : Nat → Int) (e : sE) : sv ρ (sng e) = - sv ρ e := by
  unfold sng
  rw [sadd_v, sK_v]
  omega
/-- bounds hold -/
def sOk (B : sB) (ρ : Nat → Int) : Prop := ∀ j b, B[j]? = some b → b.1 ≤ ρ j ∧ ρ j ≤ b.2
noncomputable def sget (B : sB) (n : Nat) : Option (Int × Int) := List.rec (motive := fun _ => Nat → Option (Int × Int)) (fun _ => none) (fun b _ ih n => Nat.rec (motive := fun _ => Option (Int × Int)) (some b) (fun m _ => ih m) n) B n
theorem sget_e : ∀ (B : sB) (n : Nat), sget B n = B[n]?
  | [], _ => rfl
  | _ :: _, 0 => rfl
  | b :: B, n + 1 => by
    show sget B n = (b :: B)[n + 1]?
    rw [sget_e B n, List.getElem?_cons_succ]
noncomputable def sup (B : sB) (l : List (Nat × Int)) : Option Int := List.rec (motive := fun _ => Option Int) (some 0) (fun p _ ih => Option.rec (motive := fun _ => Option Int) none (fun b => Option.rec (motive := fun _ => Option Int) none (fun u => some (addI (mulI p.2 (Int.rec (motive := fun _ => Int) (fun _ => b.2) (fun _ => b.1) p.2)) u)) ih) (sget B p.1)) l
theorem sup_c (B : sB) (p : Nat × Int) (l : List (Nat × Int)) : sup B (p :: l) = match B[p.1]?, sup B l with
    | some b, some u => some ((if 0 ≤ p.2 then p.2 * b.2 else p.2 * b.1) + u)
    | _, _ => none := by
  show (Option.rec (motive := fun _ => Option Int) none (fun b => Option.rec (motive := fun _ => Option Int) none (fun u => some (addI (mulI p.2 (Int.rec (motive := fun _ => Int) (fun _ => b.2) (fun _ => b.1) p.2)) u)) (sup B l)) (sget B p.1) : Option Int) = _
  rw [sget_e]
  cases B[p.1]? with
  | none => rfl
  | some b =>
    cases sup B l with
    | none => rfl
    | some u =>
      show some (addI (mulI p.2 (Int.rec (motive := fun _ => Int) (fun _ => b.2) (fun _ => b.1) p.2)) u) = some ((if 0 ≤ p.2 then p.2 * b.2 else p.2 * b.1) + u)
      rw [addI_e, mulI_e]
      obtain ⟨v, q⟩ := p
      cases q with
      | ofNat n =>
        have h : (0 : Int) ≤ ((v, Int.ofNat n) : Nat × Int).2 := Int.natCast_nonneg n
        rw [if_pos h]
      | negSucc n =>
        have h : ¬ (0 : Int) ≤ ((v, Int.negSucc n) : Nat × Int).2 := Int.not_le.mpr (Int.negSucc_lt_zero n)
        rw [if_neg h]
noncomputable def slw (B : sB) (l : List (Nat × Int)) : Option Int := List.rec (motive := fun _ => Option Int) (some 0) (fun p _ ih => Option.rec (motive := fun _ => Option Int) none (fun b => Option.rec (motive := fun _ => Option Int) none (fun u => some (addI (mulI p.2 (Int.rec (motive := fun _ => Int) (fun _ => b.1) (fun _ => b.2) p.2)) u)) ih) (sget B p.1)) l
theorem slw_c (B : sB) (p : Nat × Int) (l : List (Nat × Int)) : slw B (p :: l) = match B[p.1]?, slw B l with
    | some b, some u => some ((if 0 ≤ p.2 then p.2 * b.1 else p.2 * b.2) + u)
    | _, _ => none := by
  show (Option.rec (motive := fun _ => Option Int) none (fun b => Option.rec (motive := fun _ => Option Int) none (fun u => some (addI (mulI p.2 (Int.rec (motive := fun _ => Int) (fun _ => b.1) (fun _ => b.2) p.2)) u)) (slw B l)) (sget B p.1) : Option Int) = _
  rw [sget_e]
  cases B[p.1]? with
  | none => rfl
  | some b =>
    cases slw B l with
    | none => rfl
    | some u =>
      show some (addI (mulI p.2 (Int.rec (motive := fun _ => Int) (fun _ => b.1) (fun _ => b.2) p.2)) u) = some ((if 0 ≤ p.2 then p.2 * b.1 else p.2 * b.2) + u)
      rw [addI_e, mulI_e]
      obtain ⟨v, q⟩ := p
      cases q with
      | ofNat n =>
        have h : (0 : Int) ≤ ((v, Int.ofNat n) : Nat × Int).2 := Int.natCast_nonneg n
        rw [if_pos h]
      | negSucc n =>
        have h : ¬ (0 : Int) ≤ ((v, Int.negSucc n) : Nat × Int).2 := Int.not_le.mpr (Int.negSucc_lt_zero n)
        rw [if_neg h]
theorem sup_le {B : sB} {ρ : Nat → Int} (hB : sOk B ρ) : ∀ {l : List (Nat × Int)} {u : Int}, sup B l = some u → sT ρ l ≤ u
  | [], u, e => by cases e; exact Int.le_refl 0
  | p :: l, u, e => by
    rw [sup_c] at e
    cases hb : B[p.1]? with
    | none => rw [hb] at e; cases e
    | some b =>
      cases hs : sup B l with
      | none => rw [hb, hs] at e; cases e
      | some v =>
        rw [hb, hs] at e
        have e := Option.some.inj e
        have ih := sup_le hB hs
        obtain ⟨h1, h2⟩ := hB _ _ hb
        show p.2 * ρ p.1 + sT ρ l ≤ u
        by_cases hq : 0 ≤ p.2
        · rw [if_pos hq] at e
          have := Int.mul_le_mul_of_nonneg_left h2 hq
          omega
        · rw [if_neg hq] at e
          have := Int.mul_le_mul_of_nonpos_left (a := p.2) (by omega) h1
          omega
theorem slw_le {B : sB} {ρ : Nat → Int} (hB : sOk B ρ) : ∀ {l : List (Nat × Int)} {u : Int}, slw B l = some u → u ≤ sT ρ l
  | [], u, e => by cases e; exact Int.le_refl 0
  | p :: l, u, e => by
    rw [slw_c] at e
    cases hb : B[p.1]? with
    | none => rw [hb] at e; cases e
    | some b =>
      cases hs : slw B l with
      | none => rw [hb, hs] at e; cases e
      | some v =>
        rw [hb, hs] at e
        have e := Option.some.inj e
        have ih := slw_le hB hs
        obtain ⟨h1, h2⟩ := hB _ _ hb
        show u ≤ p.2 * ρ p.1 + sT ρ l
        by_cases hq : 0 ≤ p.2
        · rw [if_pos hq] at e
          have := Int.mul_le_mul_of_nonneg_left h1 hq
          omega
        · rw [if_neg hq] at e
          have := Int.mul_le_mul_of_nonpos_left (a := p.2) (by omega) h2
          omega
/-- an expression's bounds -/
noncomputable def sUb (B : sB) (e : sE) : Option Int := (sup B e.2).map (fun u => e.1 + u)
noncomputable def sLb (B : sB) (e : sE) : Option Int := (slw B e.2).map (fun u => e.1 + u)
theorem sUb_le {B : sB} {ρ : Nat → Int} (hB : sOk B ρ) {e : sE} {u : Int} (h : sUb B e = some u) : sv ρ e ≤ u := by
  unfold sUb at h
  cases hs : sup B e.2 with
  | none => rw [hs] at h; cases h
  | some v =>
    rw [hs] at h
    have h := Option.some.inj h
    have := sup_le hB hs
    show e.1 + sT ρ e.2 ≤ u
    have : e.1 + v = u := h
    omega
theorem sLb_le {B : sB} {ρ : Nat → Int} (hB : sOk B ρ) {e : sE} {u : Int} (h : sLb B e = some u) : u ≤ sv ρ e := by
  unfold sLb at h
  cases hs : slw B e.2 with
  | none => rw [hs] at h; cases h
  | some v =>
    rw [hs] at h
    have h := Option.some.inj h
    have := slw_le hB hs
    show u ≤ e.1 + sT ρ e.2
    have : e.1 + v = u := h
    omega
/-- c is at most 0 by the bounds alone -/
noncomputable def sl0 (B : sB) (c : sE) : Bool := Option.rec (motive := fun _ => Bool) false (fun u => leR (addI c.1 u)) (sup B c.2)
theorem sl0_n {B : sB} {c : sE} (h : c.2 = []) (h1 : c.1 ≤ 0) : sl0 B c = true := by
  unfold sl0
  rw [h]
  show leR (addI c.1 0) = true
  rw [addI_e]
  exact (leR_e _).mpr (by omega)
theorem sl0_le {B : sB} {ρ : Nat → Int} (hB : sOk B ρ) {c : sE} (h : sl0 B c = true) : sv ρ c ≤ 0 := by
  unfold sl0 at h
  cases hs : sup B c.2 with
  | none => rw [hs] at h; cases h
  | some v =>
    rw [hs] at h
    have h : leR (addI c.1 v) = true := h
    rw [addI_e] at h
    have h := (leR_e _).mp h
    have := sup_le hB hs
    show c.1 + sT ρ c.2 ≤ 0
    omega
noncomputable def scf (s : Nat) : List (Nat × Int) → Int
  | [] => 0
  | p :: l => if p.1 = s then p.2 else scf s l
/-- how often a may be taken from c -/
noncomputable def slam (c : List (Nat × Int)) : List (Nat × Int) → Nat
  | [] => 0
  | p :: l => if (if 0 < p.2 then decide (p.2 ≤ scf p.1 c) else (decide (p.2 < 0) && decide (scf p.1 c ≤ p.2))) = true then (scf p.1 c / p.2).toNat else slam c l
/-- c less a, as often as it goes -/
noncomputable def stk1 (c a : sE) : sE := sadd c a (-(slam c.2 a.2 : Int))
/-- c is at most 0 by constraints taken away, n at most -/
noncomputable def spd (B : sB) (C : List sE) : Nat → sE → Bool
  | 0, c => sl0 B c
  | n + 1, c => sl0 B c || C.any (fun a => decide (0 < slam c.2 a.2) && spd B C n (stk1 c a))
/-- how often a may be taken from c, by c's last sign -/
noncomputable def slmL (c a : List (Nat × Int)) : Nat := match c.getLast? with
  | none => 0
  | some p => if (if 0 < scf p.1 a then decide (scf p.1 a ≤ p.2) else (decide (scf p.1 a < 0) && decide (p.2 ≤ scf p.1 a))) = true then (p.2 / scf p.1 a).toNat else 0
noncomputable def stkL (c a : sE) : sE := sadd c a (-(slmL c.2 a.2 : Int))
/-- c is at most 0 by constraints that take away its last sign, n at most -/
noncomputable def spl7 (B : sB) (C : List sE) : Nat → sE → Bool
  | 0, c => sl0 B c
  | n + 1, c => sl0 B c || C.any (fun a => decide (0 < slmL c.2 a.2) && spl7 B C n (stkL c a))
/-- c is at most 0 by bounds and constraints -/
noncomputable def sp0 (B : sB) (C : List sE) (c : sE) : Bool := sl0 B c || (C.any (fun a => sl0 B (sadd c a (-1))) || (C.any (fun a => C.any (fun b => sl0 B (sadd (sadd c a (-1)) b (-1)))) || (spl7 B C 10 c || spd B C 3 c)))
theorem stk1_v {ρ : Nat → Int} {c a : sE} (ha : sv ρ a ≤ 0) : sv ρ c ≤ sv ρ (stk1 c a) := by
  unfold stk1
  rw [sadd_v]
  have : (slam c.2 a.2 : Int) * sv ρ a ≤ 0 := Int.mul_nonpos_of_nonneg_of_nonpos (by omega) ha
  rw [Int.neg_mul]
  omega
theorem spd_le {B : sB} {C : List sE} {ρ : Nat → Int} (hB : sOk B ρ) (hC : ∀ c ∈ C, sv ρ c ≤ 0) : ∀ (n : Nat) {c : sE}, spd B C n c = true → sv ρ c ≤ 0
  | 0, c, h => sl0_le hB h
  | n + 1, c, h => by
    unfold spd at h
    rcases Bool.or_eq_true_iff.mp h with h | h
    · exact sl0_le hB h
    · obtain ⟨a, ha, h⟩ := List.any_eq_true.mp h
      rw [Bool.and_eq_true] at h
      exact Int.le_trans (stk1_v (hC a ha)) (spd_le hB hC n h.2)
theorem stkL_v {ρ : Nat → Int} {c a : sE} (ha : sv ρ a ≤ 0) : sv ρ c ≤ sv ρ (stkL c a) := by
  unfold stkL
  rw [sadd_v]
  have : (slmL c.2 a.2 : Int) * sv ρ a ≤ 0 := Int.mul_nonpos_of_nonneg_of_nonpos (by omega) ha
  rw [Int.neg_mul]
  omega
theorem spl7_le {B : sB} {C : List sE} {ρ : Nat → Int} (hB : sOk B ρ) (hC : ∀ c ∈ C, sv ρ c ≤ 0) : ∀ (n : Nat) {c : sE}, spl7 B C n c = true → sv ρ c ≤ 0
  | 0, c, h => sl0_le hB h
  | n + 1, c, h => by
    unfold spl7 at h
    rcases Bool.or_eq_true_iff.mp h with h | h
    · exact sl0_le hB h
    · obtain ⟨a, ha, h⟩ := List.any_eq_true.mp h
      rw [Bool.and_eq_true] at h
      exact Int.le_trans (stkL_v (hC a ha)) (spl7_le hB hC n h.2)
theorem sp0_le {B : sB} {C : List sE} {ρ : Nat → Int} (hB : sOk B ρ) (hC : ∀ c ∈ C, sv ρ c ≤ 0) {c : sE} (h : sp0 B C c = true) : sv ρ c ≤ 0 := by
  unfold sp0 at h
  rcases Bool.or_eq_true_iff.mp h with h | h
  · exact sl0_le hB h
  · rcases Bool.or_eq_true_iff.mp h with h | h
    · obtain ⟨a, ha, h⟩ := List.any_eq_true.mp h
      have h1 := sl0_le hB h
      have h2 := hC a ha
      rw [sadd_v] at h1
      omega
    · rcases Bool.or_eq_true_iff.mp h with h | h
      · obtain ⟨a, ha, h⟩ := List.any_eq_true.mp h
        obtain ⟨b, hb, h⟩ := List.any_eq_true.mp h
        have h1 := sl0_le hB h
        have h2 := hC a ha
        have h3 := hC b hb
        rw [sadd_v, sadd_v] at h1
        omega
      · rcases Bool.or_eq_true_iff.mp h with h | h
        · exact spl7_le hB hC 10 h
        · exact spd_le hB hC 3 h
/-- e is 0 by the bounds and one constraint at most -/
noncomputable def sq1 (B : sB) (C : List sE) (c : sE) : Bool := Bool.rec (motive := fun _ => Bool) (sany C (fun a => sl0 B (sadd c a (Int.negSucc 0)))) true (sl0 B c)
theorem sq1_d (B : sB) (C : List sE) (c : sE) : sq1 B C c = (sl0 B c || C.any (fun a => sl0 B (sadd c a (-1)))) := by
  unfold sq1
  rw [bRec, sany_e]
  cases sl0 B c <;> rfl
/-- the last constraint is 0 at most 0: proofs of this state are to be light -/
noncomputable def smk (C : List sE) : Bool := C.foldl (fun _ a => decide (a.1 = 0) && a.2.isEmpty) false
noncomputable def slp (B : sB) (c : sE) : Bool := Option.rec (motive := fun _ => Bool) false (fun u => gtR (addI c.1 u)) (slw B c.2)
theorem slp_v {B : sB} {ρ : Nat → Int} (hB : sOk B ρ) {c : sE} (h : slp B c = true) : 0 < sv ρ c := by
  unfold slp at h
  cases hs : slw B c.2 with
  | none => rw [hs] at h; cases h
  | some v =>
    rw [hs] at h
    have h : gtR (addI c.1 v) = true := h
    rw [addI_e] at h
    have h := (gtR_e _).mp h
    have := slw_le hB hs
    show 0 < c.1 + sT ρ c.2
    omega
noncomputable def sq0 (B : sB) (C : List sE) (e : sE) : Bool := if e.2.isEmpty = true then decide (e.1 = 0) else if (smk C && (slp B e || slp B (sng e))) = true then false else (sq1 B C e && sq1 B C (sng e))
theorem sq1_le {B : sB} {C : List sE} {ρ : Nat → Int} (hB : sOk B ρ) (hC : ∀ c ∈ C, sv ρ c ≤ 0) {c : sE} (h : sq1 B C c = true) : sv ρ c ≤ 0 := by
  rw [sq1_d] at h
  rcases Bool.or_eq_true_iff.mp h with h | h
  · exact sl0_le hB h
  · obtain ⟨a, ha, h⟩ := List.any_eq_true.mp h
    have h1 := sl0_le hB h
    have h2 := hC a ha
    rw [sadd_v] at h1
    omega
theorem sq0_v {B : sB} {C : List sE} {ρ : Nat → Int} (hB : sOk B ρ) (hC : ∀ c ∈ C, sv ρ c ≤ 0) {e : sE} (h : sq0 B C e = true) : sv ρ e = 0 := by
  unfold sq0 at h
  split at h
  case isTrue q =>
    rw [List.isEmpty_iff] at q
    have h := of_decide_eq_true h
    show e.1 + sT ρ e.2 = 0
    rw [q, h]
    rfl
  case isFalse =>
    split at h
    case isTrue => cases h
    case isFalse =>
    rw [Bool.and_eq_true] at h
    have h1 := sq1_le hB hC h.1
    have h2 := sq1_le hB hC h.2
    rw [sng_v] at h2
    omega
/-- one sign's bounds by c at most 0; none: there is no such value -/
noncomputable def sref1 (B : sB) (c : sE) (p : Nat × Int) : Option sB := match slw B (sins p.1 (-p.2) c.2), B[p.1]? with
  | some r, some b =>
    if 0 < p.2 then (if b.1 ≤ min b.2 ((-(c.1 + r)) / p.2) then some (B.set p.1 (b.1, min b.2 ((-(c.1 + r)) / p.2))) else none)
    else if p.2 < 0 then (if max b.1 (-((-(c.1 + r)) / (-p.2))) ≤ b.2 then some (B.set p.1 (max b.1 (-((-(c.1 + r)) / (-p.2))), b.2)) else none)
    else some B
  | _, _ => some B
theorem sset_ok {B : sB} {ρ : Nat → Int} (hB : sOk B ρ) {s : Nat} {b : Int × Int} (h : b.1 ≤ ρ s ∧ ρ s ≤ b.2) : sOk (B.set s b) ρ := by
  intro j b2 e
  rw [List.getElem?_set] at e
  by_cases hj : s = j
  · rw [if_pos hj] at e
    split at e
    · cases e; subst hj; exact h
    · cases e
  · rw [if_neg hj] at e
    exact hB j b2 e
theorem sref1_ok {B : sB} {ρ : Nat → Int} (hB : sOk B ρ) {c : sE} (hc : sv ρ c ≤ 0) (p : Nat × Int) : ∃ B', sref1 B c p = some B' ∧ sOk B' ρ ∧ B'.length = B.length := by
  unfold sref1
  cases hr : slw B (sins p.1 (-p.2) c.2) with
  | none => exact ⟨B, rfl, hB, rfl⟩
  | some r =>
    cases hb : B[p.1]? with
    | none => exact ⟨B, rfl, hB, rfl⟩
    | some b =>
      have h1 := slw_le hB hr
      rw [sins_v, Int.neg_mul] at h1
      have h2 : c.1 + sT ρ c.2 ≤ 0 := hc
      obtain ⟨b1, b2⟩ := hB _ _ hb
      by_cases hp : 0 < p.2
      · have h3 : ρ p.1 ≤ (-(c.1 + r)) / p.2 := by
          rw [Int.le_ediv_iff_mul_le hp, Int.mul_comm]
          omega
        have h4 : ρ p.1 ≤ min b.2 ((-(c.1 + r)) / p.2) := Int.le_min.mpr ⟨b2, h3⟩
        simp only [if_pos hp]
        rw [if_pos (Int.le_trans b1 h4)]
        exact ⟨_, rfl, sset_ok hB ⟨b1, h4⟩, List.length_set ..⟩
      · by_cases hn : p.2 < 0
        · have h3 : -(ρ p.1) ≤ (-(c.1 + r)) / (-p.2) := by
            rw [Int.le_ediv_iff_mul_le (by omega), Int.mul_comm, Int.neg_mul_neg]
            omega
          have h4 : max b.1 (-((-(c.1 + r)) / (-p.2))) ≤ ρ p.1 := Int.max_le.mpr ⟨b1, by omega⟩
          simp only [if_neg hp, if_pos hn]
          rw [if_pos (Int.le_trans h4 b2)]
          exact ⟨_, rfl, sset_ok hB ⟨h4, b2⟩, List.length_set ..⟩
        · simp only [if_neg hp, if_neg hn]
          exact ⟨B, rfl, hB, rfl⟩
noncomputable def srefs (c : sE) : List (Nat × Int) → sB → Option sB
  | [], B => some B
  | p :: l, B => match sref1 B c p with
    | some B' => srefs c l B'
    | none => none
theorem srefs_ok {ρ : Nat → Int} {c : sE} (hc : sv ρ c ≤ 0) : ∀ (l : List (Nat × Int)) {B : sB}, sOk B ρ → ∃ B', srefs c l B = some B' ∧ sOk B' ρ ∧ B'.length = B.length
  | [], B, hB => ⟨B, rfl, hB, rfl⟩
  | p :: l, B, hB => by
    obtain ⟨B1, e1, h1, l1⟩ := sref1_ok hB hc p
    obtain ⟨B2, e2, h2, l2⟩ := srefs_ok hc l h1
    refine ⟨B2, ?_, h2, l2.trans l1⟩
    unfold srefs
    rw [e1]
    exact e2
/-- c at most 0 is assumed; none: it can't be -/
noncomputable def sasm (B : sB) (C : List sE) (c : sE) : Option (sB × List sE) :=
  if sl0 B c = true then some (B, C)
  else match srefs c c.2 B with
    | none => none
    | some B' => if c.2.length = 0 then none else some (B', if c.2.length ≤ 1 then C else c :: C)
theorem sasm_ok {B : sB} {C : List sE} {ρ : Nat → Int} (hB : sOk B ρ) (hC : ∀ c ∈ C, sv ρ c ≤ 0) {c : sE} (hc : sv ρ c ≤ 0) : ∃ B' C', sasm B C c = some (B', C') ∧ sOk B' ρ ∧ (∀ c ∈ C', sv ρ c ≤ 0) ∧ B'.length = B.length := by
  unfold sasm
  by_cases h0 : sl0 B c = true
  · rw [if_pos h0]
    exact ⟨B, C, rfl, hB, hC, rfl⟩
  · rw [if_neg h0]
    obtain ⟨B1, e1, h1, l1⟩ := srefs_ok hc c.2 hB
    rw [e1]
    have hne : ¬ c.2.length = 0 := fun hz => by
      have hz := List.eq_nil_of_length_eq_zero hz
      apply h0
      have h2 : c.1 + sT ρ c.2 ≤ 0 := hc
      rw [hz] at h2
      have h3 : c.1 + 0 ≤ 0 := h2
      exact sl0_n hz (by omega)
    simp only [if_neg hne]
    refine ⟨B1, _, rfl, h1, ?_, l1⟩
    split
    · exact hC
    · intro x hx
      rcases List.mem_cons.mp hx with rfl | hx
      · exact hc
      · exact hC x hx
/-- the same, lightly -/
noncomputable def sasl (B : sB) (C : List sE) (c : sE) : Option (sB × List sE) :=
  if slp B c = true then none
  else if sany C (fun a => sl0 B (sadd c a (Int.negSucc 0))) = true then (match srefs c c.2 B with
    | none => none
    | some B' => if sany C (slp B') = true then none else some (B', C))
  else if sany C (fun a => sl0 B (sadd (sac (sng c) 1) a (Int.negSucc 0))) = true then none
  else match srefs c c.2 B with
    | none => none
    | some B' => if sany C (slp B') = true then none else some (B', if c.2.length ≤ 1 then C else c :: C)
theorem sasl_ok {B : sB} {C : List sE} {ρ : Nat → Int} (hB : sOk B ρ) (hC : ∀ c ∈ C, sv ρ c ≤ 0) {c : sE} (hc : sv ρ c ≤ 0) : ∃ B' C', sasl B C c = some (B', C') ∧ sOk B' ρ ∧ (∀ c ∈ C', sv ρ c ≤ 0) ∧ B'.length = B.length := by
  obtain ⟨B1, e1, h1, l1⟩ := srefs_ok hc c.2 hB
  have n1 : ¬ slp B c = true := fun q => by
    have := slp_v hB q
    omega
  have n2 : ¬ sany C (slp B1) = true := fun q => by
    rw [sany_e] at q
    obtain ⟨a, ha, q⟩ := List.any_eq_true.mp q
    have := slp_v h1 q
    have := hC a ha
    omega
  have n3 : ¬ sany C (fun a => sl0 B (sadd (sac (sng c) 1) a (Int.negSucc 0))) = true := fun q => by
    rw [sany_e] at q
    obtain ⟨a, ha, q⟩ := List.any_eq_true.mp q
    have q := sl0_le hB q
    have := hC a ha
    rw [sadd_v, sac_v, sng_v, show Int.negSucc 0 = (-1 : Int) from rfl] at q
    omega
  unfold sasl
  rw [if_neg n1, if_neg n3]
  split
  case isTrue =>
    rw [e1]
    simp only [if_neg n2]
    exact ⟨B1, C, rfl, h1, hC, l1⟩
  case isFalse =>
    rw [e1]
    simp only [if_neg n2]
    refine ⟨B1, _, rfl, h1, ?_, l1⟩
    split
    · exact hC
    · intro x hx
      rcases List.mem_cons.mp hx with rfl | hx
      · exact hc
      · exact hC x hx
