/-! the clauses of a law's text, one behind another: where they begin, where their tokens begin (the reference's) -/
section LPTH
variable (n : Nat) (B : Nat → Int)
noncomputable def lPos : Nat → Nat
  | 0 => 0
  | k + 1 => wSk n B (wG n B 11 0 (lPos k)).toNat + 1
noncomputable def lOff : Nat → Nat
  | 0 => 0
  | k + 1 => lOff k + (eG false n B 11 0 (lPos n B k)).length
/-- clause k is there, and well -/
noncomputable def lCl (k : Nat) : Prop := lPos n B k ≤ n ∧ 0 ≤ wG n B 11 0 (lPos n B k)
/-- clauses up to k are reached -/
noncomputable def lOk (k : Nat) : Prop := ∀ j, j < k → lCl n B j ∧ wCh n B (wSk n B (wG n B 11 0 (lPos n B j)).toNat) = 59
noncomputable def lP1 (k : Nat) : Nat := wSk n B (wSk n B (lPos n B k) + 1) + 1
noncomputable def lS1 (k : Nat) : Nat := wSk n B (wG n B 3 0 (wSk n B (lP1 n B k))).toNat
/-- the condition's tokens -/
noncomputable def lO2 (k : Nat) : Nat := lOff n B k + (if wCh n B (wSk n B (lP1 n B k)) = 33 ∨ wCh n B (wSk n B (lP1 n B k)) = 40 then (eG false n B 10 0 (wSk n B (lP1 n B k))).length else (eG false n B 3 0 (wSk n B (lP1 n B k))).length + (eG false n B 16 0 (lS1 n B k)).length)
/-- whether it has a condition -/
noncomputable def lTs (k : Nat) : Prop := (wCh n B (wSk n B (lP1 n B k)) = 33 ∨ wCh n B (wSk n B (lP1 n B k)) = 40) ∨ (60 ≤ wCh n B (lS1 n B k) ∧ wCh n B (lS1 n B k) ≤ 62)
noncomputable def lSf (k : Nat) : Nat := if (wCh n B (wSk n B (lP1 n B k)) = 33 ∨ wCh n B (wSk n B (lP1 n B k)) = 40) ∨ (60 ≤ wCh n B (lS1 n B k) ∧ wCh n B (lS1 n B k) ≤ 62) then lO2 n B k else lOff n B k
noncomputable def lSe (k : Nat) : Nat := lOff n B k + (eG false n B 11 0 (lPos n B k)).length
/-- a place in clause k -/
noncomputable def inCl (k : Nat) (x : Int) : Prop := lOk n B k ∧ (lPos n B k : Int) ≤ x ∧ ∀ j, lOk n B j → k < j → x < (lPos n B j : Int)
end LPTH
section LPTO
variable {n : Nat} {B : Nat → Int}
theorem lPos_b {k : Nat} (h : lOk n B k) : lPos n B k ≤ n := by
  cases k with
  | zero => exact Nat.zero_le _
  | succ k =>
    obtain ⟨⟨h1, h2⟩, h3⟩ := h k (Nat.lt_succ_self k)
    have l := wCh_lt (n := n) (B := B) (p := wSk n B (wG n B 11 0 (lPos n B k)).toNat) (by omega)
    show wSk n B (wG n B 11 0 (lPos n B k)).toNat + 1 ≤ n
    omega
theorem lPos_s {k : Nat} (h : lOk n B (k + 1)) : lPos n B k < lPos n B (k + 1) ∧ ∃ e : Nat, wG n B 11 0 (lPos n B k) = (e : Int) ∧ lPos n B k < e ∧ e ≤ wSk n B e ∧ lPos n B (k + 1) = wSk n B e + 1 ∧ wSk n B e < n := by
  obtain ⟨⟨h1, h2⟩, h3⟩ := h k (Nat.lt_succ_self k)
  have g := (wG_gd (B := B) 11 0 (lPos n B k) rfl h1).2 h2
  rw [show wS 11 = 1 from rfl] at g
  obtain ⟨e, he⟩ : ∃ e : Nat, wG n B 11 0 (lPos n B k) = (e : Int) := ⟨(wG n B 11 0 (lPos n B k)).toNat, by omega⟩
  have s := wSk_le (n := n) (B := B) (p := e) (by omega)
  rw [he] at h3
  have h3 : wCh n B (wSk n B e) = 59 := h3
  have l := wCh_lt (n := n) (B := B) (p := wSk n B e) (by omega)
  have e1 : lPos n B (k + 1) = wSk n B e + 1 := by
    show wSk n B (wG n B 11 0 (lPos n B k)).toNat + 1 = _
    rw [he]
    rfl
  exact ⟨by omega, e, he, by omega, s.1, e1, l⟩
theorem lOk_d {k j : Nat} (h : lOk n B k) (hj : j ≤ k) : lOk n B j := fun i hi => h i (by omega)
theorem lPos_m {k j : Nat} (h : lOk n B k) (hj : j < k) : lPos n B j < lPos n B k := by
  induction k with
  | zero => omega
  | succ k ih =>
    have := (lPos_s h).1
    by_cases e : j = k
    · rw [e]
      exact this
    · have := ih (lOk_d h (by omega)) (by omega)
      omega
theorem lPos_i {k j : Nat} (h : lOk n B k) (h2 : lOk n B j) (e : lPos n B k = lPos n B j) : k = j := by
  rcases Nat.lt_trichotomy k j with z | z | z
  · have := lPos_m h2 z
    omega
  · exact z
  · have := lPos_m h z
    omega
/-- a well clause: y and : are there -/
theorem lCl_1 {k : Nat} (h : lCl n B k) : wCh n B (wSk n B (lPos n B k)) = 121 ∧ wCh n B (wSk n B (wSk n B (lPos n B k) + 1)) = 58 ∧ wG n B 11 0 (lPos n B k) = wG n B 17 0 (lP1 n B k) ∧ lPos n B k < lP1 n B k ∧ lP1 n B k ≤ n ∧ eG false n B 11 0 (lPos n B k) = eG false n B 17 0 (lP1 n B k) := by
  obtain ⟨h1, h2⟩ := h
  have s := wSk_le (B := B) h1
  have w := wE_CL (B := B) h1
  have x := eE_CL (c := false) (B := B) h1
  by_cases z1 : wCh n B (wSk n B (lPos n B k)) = 121
  · have l1 := wCh_lt (n := n) (B := B) (p := wSk n B (lPos n B k)) (by omega)
    have s2 := wSk_le (n := n) (B := B) (p := wSk n B (lPos n B k) + 1) (by omega)
    rw [if_pos z1] at w x
    by_cases z2 : wCh n B (wSk n B (wSk n B (lPos n B k) + 1)) = 58
    · have l2 := wCh_lt (n := n) (B := B) (p := wSk n B (wSk n B (lPos n B k) + 1)) (by omega)
      rw [if_pos z2] at w x
      refine ⟨z1, z2, w, ?_, ?_, x⟩
      · show _ < wSk n B (wSk n B (lPos n B k) + 1) + 1
        omega
      · show wSk n B (wSk n B (lPos n B k) + 1) + 1 ≤ n
        omega
    · rw [if_neg z2] at w
      unfold wFl at w
      omega
  · rw [if_neg z1] at w
    unfold wFl at w
    omega
/-- the clause that begins behind y and : at a place is told by it -/
theorem lP1_m {k j : Nat} (h : lOk n B k) (hj : j < k) : lP1 n B j < lPos n B k := by
  have hj1 := h j hj
  obtain ⟨y1, y2, y3, y4, y5, y6⟩ := lCl_1 hj1.1
  obtain ⟨a1, e, a2, a3, a4, a5, a6⟩ := lPos_s (lOk_d h (show j + 1 ≤ k by omega))
  have g := (wG_gd (B := B) 17 0 (lP1 n B j) rfl y5).2 (by omega)
  rw [show wS 17 = 1 from rfl] at g
  rcases Nat.lt_or_ge (j + 1) k with z | z
  · have := lPos_m h z
    omega
  · rw [show k = j + 1 by omega]
    omega
theorem inCl_u {k j : Nat} {x : Int} (h1 : inCl n B k x) (h2 : inCl n B j x) : k = j := by
  rcases Nat.lt_trichotomy k j with z | z | z
  · have := h1.2.2 j h2.1 z
    have := h2.2.1
    omega
  · exact z
  · have := h2.2.2 k h1.1 z
    have := h1.2.1
    omega
theorem inCl_0 {k : Nat} (h : lOk n B k) : inCl n B k (lPos n B k : Int) := ⟨h, Int.le_refl _, fun j hj hk => by have := lPos_m hj hk; omega⟩
/-- behind y and : -/
theorem inCl_1 {k : Nat} (h : lOk n B k) (h2 : lPos n B k ≤ lP1 n B k) : inCl n B k (lP1 n B k : Int) := ⟨h, by omega, fun j hj hk => by have := lP1_m hj hk; omega⟩
/-- behind a condition: what follows is the clause's end -/
theorem inCl_2 {k e : Nat} (h : lOk n B k) (h2 : lPos n B k ≤ e) (h3 : wG n B 17 0 (lP1 n B k) = wG n B 18 0 e) (he : e ≤ n) : inCl n B k (e : Int) := by
  refine ⟨h, by omega, fun j hj hk => ?_⟩
  obtain ⟨y1, y2, y3, y4, y5, y6⟩ := lCl_1 (hj k hk).1
  obtain ⟨a1, e', a2, a3, a4, a5, a6⟩ := lPos_s (lOk_d hj (show k + 1 ≤ j by omega))
  have g := (wG_gd (B := B) 18 0 e rfl he).2 (by omega)
  rw [show wS 18 = 1 from rfl] at g
  rcases Nat.lt_or_ge (k + 1) j with z | z
  · have := lPos_m hj z
    omega
  · rw [show j = k + 1 by omega]
    omega
theorem lOff_b {k : Nat} (h : lOk n B k) : lOff n B k ≤ lPos n B k := by
  induction k with
  | zero => exact Nat.zero_le _
  | succ k ih =>
    obtain ⟨a1, e, a2, a3, a4, a5, a6⟩ := lPos_s h
    have := ih (lOk_d h (by omega))
    have l := eLn_all (c := false) (B := B) 11 0 (lPos n B k) (by omega) rfl (fun _ => rfl) e a2
    rw [if_pos rfl] at l
    show lOff n B k + (eG false n B 11 0 (lPos n B k)).length ≤ _
    omega
theorem lSe_b {k r : Nat} (h : lOk n B k) (hr : wG n B 11 0 (lPos n B k) = (r : Int)) : lSe n B k ≤ r := by
  have l := eLn_all (c := false) (B := B) 11 0 (lPos n B k) (lPos_b h) rfl (fun _ => rfl) r hr
  rw [if_pos rfl] at l
  have := lOff_b h
  show lOff n B k + (eG false n B 11 0 (lPos n B k)).length ≤ _
  omega
theorem lK_b {k : Nat} (h : lOk n B k) : 2 * k ≤ lPos n B k := by
  induction k with
  | zero => exact Nat.zero_le _
  | succ k ih =>
    obtain ⟨a1, e, a2, a3, a4, a5, a6⟩ := lPos_s h
    have := ih (lOk_d h (by omega))
    omega
end LPTO
