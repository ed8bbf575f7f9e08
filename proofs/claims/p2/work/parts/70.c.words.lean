/-! the words of a tape: what a reader makes of it from each place -/
section WORDS
variable (n : Nat) (B : Nat → Int)
noncomputable def wCh (p : Nat) : Int := if p < n then B p else 0
noncomputable def wSkF : Nat → Nat → Nat
  | 0, p => p
  | f + 1, p => if p < n ∧ B p = 32 then wSkF f (p + 1) else p
noncomputable def wSk (p : Nat) : Nat := wSkF n B (n - p) p
noncomputable def wFl (q : Nat) : Int := -(q : Int) - 1
noncomputable def wBd (r : Int) (k : Nat → Int) : Int := if r < 0 then r else k r.toNat
noncomputable def wNu (p : Nat) : Int := if 48 ≤ wCh n B (p + 1) ∧ wCh n B (p + 1) ≤ 57 then (if 48 ≤ wCh n B (p + 2) ∧ wCh n B (p + 2) ≤ 57 then (if 48 ≤ wCh n B (p + 3) ∧ wCh n B (p + 3) ≤ 57 then (if 48 ≤ wCh n B (p + 4) ∧ wCh n B (p + 4) ≤ 57 then wFl (p + 4) else (p : Int) + 4) else (p : Int) + 3) else (p : Int) + 2) else (p : Int) + 1
section STEP
variable (A : Nat → Nat → Nat → Int)
noncomputable def xAT (d p : Nat) : Int := if wCh n B (wSk n B p) = 91 then (if 6 ≤ d then wFl (wSk n B p) else wBd (A 3 (d + 1) (wSk n B p + 1)) (fun s => if wCh n B (wSk n B s) = 93 then (wSk n B s : Int) + 1 else wFl (wSk n B s))) else if (wCh n B (wSk n B p) = 100 ∨ wCh n B (wSk n B p) = 101 ∨ wCh n B (wSk n B p) = 104 ∨ wCh n B (wSk n B p) = 105 ∨ wCh n B (wSk n B p) = 110 ∨ wCh n B (wSk n B p) = 119) then (wSk n B p : Int) + 1 else if 48 ≤ wCh n B (wSk n B p) ∧ wCh n B (wSk n B p) ≤ 57 then wNu n B (wSk n B p) else wFl (wSk n B p)
noncomputable def xTM (d p : Nat) : Int := wBd (xAT n B A d p) (fun a => A 2 d a)
noncomputable def xTT (d p : Nat) : Int := if wCh n B (wSk n B p) = 42 ∨ wCh n B (wSk n B p) = 47 then wBd (A 0 d (wSk n B p + 1)) (fun a => A 2 d a) else (wSk n B p : Int)
noncomputable def xSU (d p : Nat) : Int := wBd (xTM n B A d p) (fun a => A 4 d a)
noncomputable def xST (d p : Nat) : Int := if wCh n B (wSk n B p) = 43 ∨ wCh n B (wSk n B p) = 45 then wBd (A 1 d (wSk n B p + 1)) (fun a => A 4 d a) else (wSk n B p : Int)
noncomputable def xCM (d p : Nat) : Int := if 60 ≤ wCh n B (wSk n B p) ∧ wCh n B (wSk n B p) ≤ 62 then A 3 d (wSk n B p + 1) else wFl (wSk n B p)
noncomputable def xUN (d p : Nat) : Int := if wCh n B (wSk n B p) = 33 then (if 6 ≤ d then wFl (wSk n B p) else A 5 (d + 1) (wSk n B p + 1)) else if wCh n B (wSk n B p) = 40 then (if 6 ≤ d then wFl (wSk n B p) else wBd (A 10 (d + 1) (wSk n B p + 1)) (fun s => if wCh n B (wSk n B s) = 41 then (wSk n B s : Int) + 1 else wFl (wSk n B s))) else wBd (if wSk n B p = p then xSU n B A d p else A 3 d (wSk n B p)) (fun s => A 6 d s)
noncomputable def xAN (d p : Nat) : Int := if wCh n B (wSk n B p) = 38 then wBd (A 5 d (wSk n B p + 1)) (fun a => A 7 d a) else (wSk n B p : Int)
noncomputable def xTR (d p : Nat) : Int := wBd (xUN n B A d p) (fun a => A 7 d a)
noncomputable def xOT (d p : Nat) : Int := if wCh n B (wSk n B p) = 124 then wBd (A 8 d (wSk n B p + 1)) (fun a => A 9 d a) else (wSk n B p : Int)
noncomputable def xCO (d p : Nat) : Int := wBd (xTR n B A d p) (fun a => A 9 d a)
noncomputable def xTB (d p : Nat) : Int := wBd (xCM n B A d p) (fun a => A 7 d a)
noncomputable def xCB (d p : Nat) : Int := wBd (xTB n B A d p) (fun a => A 9 d a)
noncomputable def xC2 (p : Nat) : Int := if wCh n B (wSk n B p) = 63 then A 3 0 (wSk n B p + 1) else wFl (wSk n B p)
noncomputable def xC1 (p : Nat) : Int := if wCh n B (wSk n B p) = 33 ∨ wCh n B (wSk n B p) = 40 then wBd (if wSk n B p = p then xCO n B A 0 p else A 10 0 (wSk n B p)) (fun a => A 18 0 a) else wBd (if wSk n B p = p then xSU n B A 0 p else A 3 0 (wSk n B p)) (fun s => if 60 ≤ wCh n B (wSk n B s) ∧ wCh n B (wSk n B s) ≤ 62 then wBd (A 16 0 (wSk n B s)) (fun b => A 18 0 b) else (wSk n B s : Int))
noncomputable def xCL (p : Nat) : Int := if wCh n B (wSk n B p) = 121 then (if wCh n B (wSk n B (wSk n B p + 1)) = 58 then A 17 0 (wSk n B (wSk n B p + 1) + 1) else wFl (wSk n B (wSk n B p + 1))) else wFl (wSk n B p)
noncomputable def xLT (p : Nat) : Int := wBd (xCL n B A p) (fun a => if wCh n B (wSk n B a) = 59 then A 12 0 (wSk n B a + 1) else if wCh n B (wSk n B a) = 0 then (wSk n B a : Int) else wFl (wSk n B a))
noncomputable def xAll (X d p : Nat) : Int := match X with
  | 0 => xAT n B A d p
  | 1 => xTM n B A d p
  | 2 => xTT n B A d p
  | 3 => xSU n B A d p
  | 4 => xST n B A d p
  | 5 => xUN n B A d p
  | 6 => xCM n B A d p
  | 7 => xAN n B A d p
  | 8 => xTR n B A d p
  | 9 => xOT n B A d p
  | 10 => xCO n B A d p
  | 11 => xCL n B A p
  | 12 => xLT n B A p
  | 15 => xTB n B A d p
  | 16 => xCB n B A d p
  | 17 => xC1 n B A p
  | 18 => xC2 n B A p
  | _ => 0
end STEP
noncomputable def wAc (T : Nat → Nat → Nat → Int) (p : Nat) (X d p' : Nat) : Int := if p < p' ∧ p' ≤ n then T X d p' else -1
noncomputable def wTb : Nat → Nat → Nat → Nat → Int
  | 0, _, _, _ => 0
  | j + 1, X, d, p => if p + j = n then xAll n B (wAc n (wTb j) p) X d p else wTb j X d p
noncomputable def wG (X d p : Nat) : Int := wTb n B (n + 1) X d p
end WORDS
section WORDSO
variable {n : Nat} {B : Nat → Int}
theorem wTb_st {X d p j : Nat} (h : n < p + j) : ∀ k, wTb n B (j + k) X d p = wTb n B j X d p
  | 0 => rfl
  | k + 1 => by
    show (if p + (j + k) = n then _ else wTb n B (j + k) X d p) = _
    rw [if_neg (by omega)]
    exact wTb_st h k
theorem wG_tb {X d p j : Nat} (h : n < p + j) (hj : j ≤ n + 1) : wTb n B j X d p = wG n B X d p := by
  have := wTb_st (B := B) (X := X) (d := d) h (n + 1 - j)
  rw [show j + (n + 1 - j) = n + 1 by omega] at this
  exact this.symm
theorem wAc_eq (p : Nat) : wAc n (wTb n B (n - p)) p = wAc n (wG n B) p := by
  funext X d p'
  unfold wAc
  by_cases h : p < p' ∧ p' ≤ n
  · rw [if_pos h, if_pos h]
    exact wG_tb (by omega) (by omega)
  · rw [if_neg h, if_neg h]
/-- what stands at a place, by what stands behind it -/
theorem wG_eq {X d p : Nat} (hp : p ≤ n) : wG n B X d p = xAll n B (wAc n (wG n B) p) X d p := by
  rw [← wG_tb (j := n - p + 1) (by omega) (by omega)]
  show (if p + (n - p) = n then _ else _) = _
  rw [if_pos (by omega), wAc_eq]
theorem wAc_in {X d p p' : Nat} (h1 : p < p') (h2 : p' ≤ n) : wAc n (wG n B) p X d p' = wG n B X d p' := if_pos ⟨h1, h2⟩
theorem wSkF_le : ∀ (f p : Nat), p ≤ n → p ≤ wSkF n B f p ∧ wSkF n B f p ≤ n
  | 0, p, h => ⟨Nat.le_refl _, h⟩
  | f + 1, p, h => by
    unfold wSkF
    split
    · rename_i hc
      have := wSkF_le f (p + 1) (by omega)
      omega
    · omega
theorem wSk_le {p : Nat} (h : p ≤ n) : p ≤ wSk n B p ∧ wSk n B p ≤ n := wSkF_le _ p h
theorem wSk_eq {p : Nat} : wSk n B p = if p < n ∧ B p = 32 then wSk n B (p + 1) else p := by
  by_cases h : p < n
  · unfold wSk
    rw [show n - p = (n - (p + 1)) + 1 by omega]
    rfl
  · unfold wSk
    rw [show n - p = 0 by omega, if_neg (by omega)]
    rfl
theorem wSkF_id : ∀ (f p : Nat), p + f = n → wSk n B (wSkF n B f p) = wSkF n B f p
  | 0, p, h => by
    rw [wSk_eq, if_neg (by show ¬ (p < n ∧ _); omega)]
  | f + 1, p, h => by
    unfold wSkF
    by_cases hc : p < n ∧ B p = 32
    · rw [if_pos hc]
      exact wSkF_id f (p + 1) (by omega)
    · rw [if_neg hc, wSk_eq, if_neg hc]
theorem wSk_id {p : Nat} (h : p ≤ n) : wSk n B (wSk n B p) = wSk n B p := wSkF_id (n - p) p (by omega)
theorem wCh_lt {p : Nat} (h : wCh n B p ≠ 0) : p < n := by
  unfold wCh at h
  by_cases hp : p < n
  · exact hp
  · rw [if_neg hp] at h
    exact absurd rfl h
theorem wCh_end {p : Nat} (h : n ≤ p) : wCh n B p = 0 := if_neg (by omega)
/-- good: a fault, or an end, between p and n; st: an end lies behind p -/
noncomputable def wGd (n st p : Nat) (v : Int) : Prop := (v < 0 → (p : Int) ≤ -v - 1 ∧ -v - 1 ≤ (n : Int)) ∧ (0 ≤ v → (p : Int) + (st : Int) ≤ v ∧ v ≤ (n : Int))
theorem wGd_fl {st p q : Nat} (h1 : p ≤ q) (h2 : q ≤ n) : wGd n st p (wFl q) := by
  unfold wGd wFl
  constructor <;> intro h <;> omega
theorem wGd_at {st p : Nat} {q : Int} (h1 : (p : Int) + (st : Int) ≤ q) (h2 : q ≤ n) : wGd n st p q := by
  unfold wGd
  constructor <;> intro h <;> omega
theorem wGd_up {st st' p p' : Nat} {v : Int} (h : wGd n st' p' v) (h1 : p ≤ p') (h2 : p + st ≤ p' + st') : wGd n st p v := by
  unfold wGd at h ⊢
  obtain ⟨a, b⟩ := h
  constructor
  · intro hv
    have := a hv
    omega
  · intro hv
    have := b hv
    omega
theorem wBd_gd {st p : Nat} {r : Int} {k : Nat → Int} {st' p' : Nat} (hr : wGd n st' p' r) (hp : p ≤ p') (hk : ∀ a : Nat, r = (a : Int) → p' + st' ≤ a → a ≤ n → wGd n st p (k a)) : wGd n st p (wBd r k) := by
  unfold wBd
  by_cases h : r < 0
  · rw [if_pos h]
    unfold wGd at hr ⊢
    have := hr.1 h
    constructor <;> intro _ <;> omega
  · rw [if_neg h]
    have := hr.2 (by omega)
    exact hk r.toNat (by omega) (by omega) (by omega)
theorem wNu_gd {q : Nat} (h : 48 ≤ wCh n B q ∧ wCh n B q ≤ 57) : wGd n 1 q (wNu n B q) := by
  have hd : ∀ p, 48 ≤ wCh n B p ∧ wCh n B p ≤ 57 → p < n := fun p hp => wCh_lt (B := B) (by omega)
  have h0 := hd _ h
  unfold wNu
  by_cases h1 : 48 ≤ wCh n B (q + 1) ∧ wCh n B (q + 1) ≤ 57
  · rw [if_pos h1]
    have g1 := hd _ h1
    by_cases h2 : 48 ≤ wCh n B (q + 2) ∧ wCh n B (q + 2) ≤ 57
    · rw [if_pos h2]
      have g2 := hd _ h2
      by_cases h3 : 48 ≤ wCh n B (q + 3) ∧ wCh n B (q + 3) ≤ 57
      · rw [if_pos h3]
        have g3 := hd _ h3
        by_cases h4 : 48 ≤ wCh n B (q + 4) ∧ wCh n B (q + 4) ≤ 57
        · rw [if_pos h4]
          have g4 := hd _ h4
          exact wGd_fl (by omega) (by omega)
        · rw [if_neg h4]
          exact wGd_at (by omega) (by omega)
      · rw [if_neg h3]
        exact wGd_at (by omega) (by omega)
    · rw [if_neg h2]
      exact wGd_at (by omega) (by omega)
  · rw [if_neg h1]
    exact wGd_at (by omega) (by omega)
noncomputable def wS (X : Nat) : Nat := if X = 2 ∨ X = 4 ∨ X = 7 ∨ X = 9 then 0 else 1
noncomputable def wX (X : Nat) : Bool := decide (X < 13) || (decide (15 ≤ X) && decide (X < 19))
noncomputable def wIH (n : Nat) (B : Nat → Int) (p : Nat) : Prop := ∀ X d p', wX X = true → p < p' → p' ≤ n → wGd n (wS X) p' (wAc n (wG n B) p X d p')
section GOOD
theorem xAT_gd {p : Nat} (hp : p ≤ n) (ih : wIH n B p) (d : Nat) : wGd n 1 p (xAT n B (wAc n (wG n B) p) d p) := by
  obtain ⟨s1, s2⟩ := wSk_le (B := B) hp
  have hlt : wCh n B (wSk n B p) ≠ 0 → wSk n B p < n := wCh_lt
  unfold xAT
  split
  · rename_i hc
    have := hlt (by omega)
    split
    · exact wGd_fl s1 s2
    · refine wBd_gd (ih 3 _ _ rfl (by omega) (by omega)) (by omega) (fun a _ h1 h2 => ?_)
      obtain ⟨t1, t2⟩ := wSk_le (B := B) h2
      have h1 : wSk n B p + 1 + 1 ≤ a := h1
      split
      · rename_i hc2
        have := wCh_lt (n := n) (B := B) (p := wSk n B a) (by omega)
        exact wGd_at (by omega) (by omega)
      · exact wGd_fl (by omega) (by omega)
  · split
    · rename_i hc
      have := hlt (by omega)
      exact wGd_at (by omega) (by omega)
    · split
      · rename_i hc
        exact wGd_up (wNu_gd hc) s1 (by omega)
      · exact wGd_fl s1 s2
theorem xTM_gd {p : Nat} (hp : p ≤ n) (ih : wIH n B p) (d : Nat) : wGd n 1 p (xTM n B (wAc n (wG n B) p) d p) :=
  wBd_gd (xAT_gd hp ih d) (Nat.le_refl _) (fun a _ h1 h2 => wGd_up (ih 2 _ _ rfl (by omega) h2) (by omega) (by show p + 1 ≤ a + 0; omega))
theorem xSU_gd {p : Nat} (hp : p ≤ n) (ih : wIH n B p) (d : Nat) : wGd n 1 p (xSU n B (wAc n (wG n B) p) d p) :=
  wBd_gd (xTM_gd hp ih d) (Nat.le_refl _) (fun a _ h1 h2 => wGd_up (ih 4 _ _ rfl (by omega) h2) (by omega) (by show p + 1 ≤ a + 0; omega))
theorem xTT_gd {p : Nat} (hp : p ≤ n) (ih : wIH n B p) (d : Nat) : wGd n 0 p (xTT n B (wAc n (wG n B) p) d p) := by
  obtain ⟨s1, s2⟩ := wSk_le (B := B) hp
  unfold xTT
  split
  · rename_i hc
    have := wCh_lt (n := n) (B := B) (p := wSk n B p) (by omega)
    refine wBd_gd (ih 0 _ _ rfl (by omega) (by omega)) (by omega) (fun a _ h1 h2 => ?_)
    have h1 : wSk n B p + 1 + 1 ≤ a := h1
    exact wGd_up (ih 2 _ _ rfl (by omega) h2) (by omega) (by omega)
  · exact wGd_at (by omega) (by omega)
theorem xST_gd {p : Nat} (hp : p ≤ n) (ih : wIH n B p) (d : Nat) : wGd n 0 p (xST n B (wAc n (wG n B) p) d p) := by
  obtain ⟨s1, s2⟩ := wSk_le (B := B) hp
  unfold xST
  split
  · rename_i hc
    have := wCh_lt (n := n) (B := B) (p := wSk n B p) (by omega)
    refine wBd_gd (ih 1 _ _ rfl (by omega) (by omega)) (by omega) (fun a _ h1 h2 => ?_)
    have h1 : wSk n B p + 1 + 1 ≤ a := h1
    exact wGd_up (ih 4 _ _ rfl (by omega) h2) (by omega) (by omega)
  · exact wGd_at (by omega) (by omega)
theorem xCM_gd {p : Nat} (hp : p ≤ n) (ih : wIH n B p) (d : Nat) : wGd n 1 p (xCM n B (wAc n (wG n B) p) d p) := by
  obtain ⟨s1, s2⟩ := wSk_le (B := B) hp
  unfold xCM
  split
  · rename_i hc
    have := wCh_lt (n := n) (B := B) (p := wSk n B p) (by omega)
    exact wGd_up (ih 3 _ _ rfl (by omega) (by omega)) (by omega) (by show p + 1 ≤ wSk n B p + 1 + 1; omega)
  · exact wGd_fl s1 s2
theorem xSUq_gd {p : Nat} (hp : p ≤ n) (ih : wIH n B p) (d : Nat) : wGd n 1 (wSk n B p) (if wSk n B p = p then xSU n B (wAc n (wG n B) p) d p else wAc n (wG n B) p 3 d (wSk n B p)) := by
  obtain ⟨s1, s2⟩ := wSk_le (B := B) hp
  split
  · rename_i he
    rw [he]
    exact xSU_gd hp ih d
  · exact ih 3 _ _ rfl (by omega) s2
theorem xUN_gd {p : Nat} (hp : p ≤ n) (ih : wIH n B p) (d : Nat) : wGd n 1 p (xUN n B (wAc n (wG n B) p) d p) := by
  obtain ⟨s1, s2⟩ := wSk_le (B := B) hp
  have hlt : wCh n B (wSk n B p) ≠ 0 → wSk n B p < n := wCh_lt
  unfold xUN
  split
  · rename_i hc
    have := hlt (by omega)
    split
    · exact wGd_fl s1 s2
    · exact wGd_up (ih 5 _ _ rfl (by omega) (by omega)) (by omega) (by show p + 1 ≤ wSk n B p + 1 + 1; omega)
  · split
    · rename_i hc
      have := hlt (by omega)
      split
      · exact wGd_fl s1 s2
      · refine wBd_gd (ih 10 _ _ rfl (by omega) (by omega)) (by omega) (fun a _ h1 h2 => ?_)
        obtain ⟨t1, t2⟩ := wSk_le (B := B) h2
        have h1 : wSk n B p + 1 + 1 ≤ a := h1
        split
        · rename_i hc2
          have := wCh_lt (n := n) (B := B) (p := wSk n B a) (by omega)
          exact wGd_at (by omega) (by omega)
        · exact wGd_fl (by omega) (by omega)
    · refine wBd_gd (xSUq_gd hp ih d) s1 (fun a _ h1 h2 => ?_)
      exact wGd_up (ih 6 _ _ rfl (by omega) h2) (by omega) (by show p + 1 ≤ a + 1; omega)
theorem xAN_gd {p : Nat} (hp : p ≤ n) (ih : wIH n B p) (d : Nat) : wGd n 0 p (xAN n B (wAc n (wG n B) p) d p) := by
  obtain ⟨s1, s2⟩ := wSk_le (B := B) hp
  unfold xAN
  split
  · rename_i hc
    have := wCh_lt (n := n) (B := B) (p := wSk n B p) (by omega)
    refine wBd_gd (ih 5 _ _ rfl (by omega) (by omega)) (by omega) (fun a _ h1 h2 => ?_)
    have h1 : wSk n B p + 1 + 1 ≤ a := h1
    exact wGd_up (ih 7 _ _ rfl (by omega) h2) (by omega) (by omega)
  · exact wGd_at (by omega) (by omega)
theorem xTR_gd {p : Nat} (hp : p ≤ n) (ih : wIH n B p) (d : Nat) : wGd n 1 p (xTR n B (wAc n (wG n B) p) d p) :=
  wBd_gd (xUN_gd hp ih d) (Nat.le_refl _) (fun a _ h1 h2 => wGd_up (ih 7 _ _ rfl (by omega) h2) (by omega) (by show p + 1 ≤ a + 0; omega))
theorem xOT_gd {p : Nat} (hp : p ≤ n) (ih : wIH n B p) (d : Nat) : wGd n 0 p (xOT n B (wAc n (wG n B) p) d p) := by
  obtain ⟨s1, s2⟩ := wSk_le (B := B) hp
  unfold xOT
  split
  · rename_i hc
    have := wCh_lt (n := n) (B := B) (p := wSk n B p) (by omega)
    refine wBd_gd (ih 8 _ _ rfl (by omega) (by omega)) (by omega) (fun a _ h1 h2 => ?_)
    have h1 : wSk n B p + 1 + 1 ≤ a := h1
    exact wGd_up (ih 9 _ _ rfl (by omega) h2) (by omega) (by omega)
  · exact wGd_at (by omega) (by omega)
theorem xCO_gd {p : Nat} (hp : p ≤ n) (ih : wIH n B p) (d : Nat) : wGd n 1 p (xCO n B (wAc n (wG n B) p) d p) :=
  wBd_gd (xTR_gd hp ih d) (Nat.le_refl _) (fun a _ h1 h2 => wGd_up (ih 9 _ _ rfl (by omega) h2) (by omega) (by show p + 1 ≤ a + 0; omega))
theorem xTB_gd {p : Nat} (hp : p ≤ n) (ih : wIH n B p) (d : Nat) : wGd n 1 p (xTB n B (wAc n (wG n B) p) d p) :=
  wBd_gd (xCM_gd hp ih d) (Nat.le_refl _) (fun a _ h1 h2 => wGd_up (ih 7 _ _ rfl (by omega) h2) (by omega) (by show p + 1 ≤ a + 0; omega))
theorem xCB_gd {p : Nat} (hp : p ≤ n) (ih : wIH n B p) (d : Nat) : wGd n 1 p (xCB n B (wAc n (wG n B) p) d p) :=
  wBd_gd (xTB_gd hp ih d) (Nat.le_refl _) (fun a _ h1 h2 => wGd_up (ih 9 _ _ rfl (by omega) h2) (by omega) (by show p + 1 ≤ a + 0; omega))
theorem xC2_gd {p : Nat} (hp : p ≤ n) (ih : wIH n B p) : wGd n 1 p (xC2 n B (wAc n (wG n B) p) p) := by
  obtain ⟨s1, s2⟩ := wSk_le (B := B) hp
  unfold xC2
  split
  · rename_i hc
    have := wCh_lt (n := n) (B := B) (p := wSk n B p) (by omega)
    exact wGd_up (ih 3 _ _ rfl (by omega) (by omega)) (by omega) (by show p + 1 ≤ wSk n B p + 1 + 1; omega)
  · exact wGd_fl s1 s2
theorem xCOq_gd {p : Nat} (hp : p ≤ n) (ih : wIH n B p) (d : Nat) : wGd n 1 (wSk n B p) (if wSk n B p = p then xCO n B (wAc n (wG n B) p) d p else wAc n (wG n B) p 10 d (wSk n B p)) := by
  obtain ⟨s1, s2⟩ := wSk_le (B := B) hp
  split
  · rename_i he
    rw [he]
    exact xCO_gd hp ih d
  · exact ih 10 _ _ rfl (by omega) s2
theorem xC1_gd {p : Nat} (hp : p ≤ n) (ih : wIH n B p) : wGd n 1 p (xC1 n B (wAc n (wG n B) p) p) := by
  obtain ⟨s1, s2⟩ := wSk_le (B := B) hp
  unfold xC1
  split
  · refine wBd_gd (xCOq_gd hp ih 0) s1 (fun a _ h1 h2 => ?_)
    exact wGd_up (ih 18 _ _ rfl (by omega) h2) (by omega) (by show p + 1 ≤ a + 1; omega)
  · refine wBd_gd (xSUq_gd hp ih 0) s1 (fun a _ h1 h2 => ?_)
    obtain ⟨t1, t2⟩ := wSk_le (B := B) h2
    split
    · refine wBd_gd (ih 16 _ _ rfl (by omega) t2) (by omega) (fun b _ h3 h4 => ?_)
      have h3 : wSk n B a + 1 ≤ b := h3
      exact wGd_up (ih 18 _ _ rfl (by omega) h4) (by omega) (by show p + 1 ≤ b + 1; omega)
    · exact wGd_at (by omega) (by omega)
theorem xCL_gd {p : Nat} (hp : p ≤ n) (ih : wIH n B p) : wGd n 1 p (xCL n B (wAc n (wG n B) p) p) := by
  obtain ⟨s1, s2⟩ := wSk_le (B := B) hp
  unfold xCL
  split
  · rename_i hc
    have := wCh_lt (n := n) (B := B) (p := wSk n B p) (by omega)
    obtain ⟨t1, t2⟩ := wSk_le (n := n) (B := B) (p := wSk n B p + 1) (by omega)
    split
    · rename_i hc2
      have := wCh_lt (n := n) (B := B) (p := wSk n B (wSk n B p + 1)) (by omega)
      exact wGd_up (ih 17 _ _ rfl (by omega) (by omega)) (by omega) (by show p + 1 ≤ wSk n B (wSk n B p + 1) + 1 + 1; omega)
    · exact wGd_fl (by omega) t2
  · exact wGd_fl s1 s2
theorem xLT_gd {p : Nat} (hp : p ≤ n) (ih : wIH n B p) : wGd n 1 p (xLT n B (wAc n (wG n B) p) p) := by
  refine wBd_gd (xCL_gd hp ih) (Nat.le_refl _) (fun a _ h1 h2 => ?_)
  obtain ⟨t1, t2⟩ := wSk_le (B := B) h2
  split
  · rename_i hc2
    have := wCh_lt (n := n) (B := B) (p := wSk n B a) (by omega)
    exact wGd_up (ih 12 _ _ rfl (by omega) (by omega)) (by omega) (by show p + 1 ≤ wSk n B a + 1 + 1; omega)
  · split
    · exact wGd_at (by omega) (by omega)
    · exact wGd_fl (by omega) t2
theorem xAll_gd {p : Nat} (hp : p ≤ n) (ih : wIH n B p) (X d : Nat) (hX : wX X = true) : wGd n (wS X) p (xAll n B (wAc n (wG n B) p) X d p) := by
  match X, hX with
  | 0, _ => exact xAT_gd hp ih d
  | 1, _ => exact xTM_gd hp ih d
  | 2, _ => exact xTT_gd hp ih d
  | 3, _ => exact xSU_gd hp ih d
  | 4, _ => exact xST_gd hp ih d
  | 5, _ => exact xUN_gd hp ih d
  | 6, _ => exact xCM_gd hp ih d
  | 7, _ => exact xAN_gd hp ih d
  | 8, _ => exact xTR_gd hp ih d
  | 9, _ => exact xOT_gd hp ih d
  | 10, _ => exact xCO_gd hp ih d
  | 11, _ => exact xCL_gd hp ih
  | 12, _ => exact xLT_gd hp ih
  | 13, h => cases h
  | 14, h => cases h
  | 15, _ => exact xTB_gd hp ih d
  | 16, _ => exact xCB_gd hp ih d
  | 17, _ => exact xC1_gd hp ih
  | 18, _ => exact xC2_gd hp ih
  | X + 19, h =>
    exfalso
    unfold wX at h
    simp only [Bool.or_eq_true, Bool.and_eq_true, decide_eq_true_eq] at h
    omega
end GOOD
theorem wG_gd (X d p : Nat) (hX : wX X = true) (hp : p ≤ n) : wGd n (wS X) p (wG n B X d p) := by
  have key : ∀ (k p : Nat), n - p ≤ k → p ≤ n → ∀ X d, wX X = true → wGd n (wS X) p (wG n B X d p) := by
    intro k
    induction k with
    | zero =>
      intro p h1 h2 X d hX
      rw [wG_eq h2]
      refine xAll_gd h2 (fun X d p' _ h3 h4 => by omega) X d hX
    | succ k ih =>
      intro p h1 h2 X d hX
      rw [wG_eq h2]
      refine xAll_gd h2 (fun X d p' hX h3 h4 => ?_) X d hX
      rw [wAc_in h3 h4]
      exact ih p' (by omega) h4 X d hX
  exact key (n - p) p (Nat.le_refl _) hp X d hX
end WORDSO
