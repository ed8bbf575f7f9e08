/-! tokens told: lists in rows of ghosts; how long they are -/
section EIND
variable {c : Bool} {n : Nat} {B : Nat → Int}
theorem eBd_n {r : Int} {k : Nat → List Int} (h : r < 0) : eBd r k = [] := if_pos h
theorem eBd_u {r : Int} {k : Nat → List Int} {u : Nat} (h : r = (u : Int)) : eBd r k = k u := by
  unfold eBd
  rw [if_neg (by omega), show r.toNat = u by omega]
/-- by places, the last first; at one place in the order of who calls whom -/
theorem eInd {P : Nat → Nat → Nat → Prop} (h0 : ∀ d p, p ≤ n → (∀ X d p', p < p' → p' ≤ n → P X d p') → P 0 d p) (h1 : ∀ d p, p ≤ n → (∀ X d p', p < p' → p' ≤ n → P X d p') → P 0 d p → P 1 d p) (h2 : ∀ d p, p ≤ n → (∀ X d p', p < p' → p' ≤ n → P X d p') → P 2 d p) (h3 : ∀ d p, p ≤ n → (∀ X d p', p < p' → p' ≤ n → P X d p') → P 1 d p → P 3 d p) (h4 : ∀ d p, p ≤ n → (∀ X d p', p < p' → p' ≤ n → P X d p') → P 4 d p) (h5 : ∀ d p, p ≤ n → (∀ X d p', p < p' → p' ≤ n → P X d p') → P 3 d (wSk n B p) → P 5 d p) (h6 : ∀ d p, p ≤ n → (∀ X d p', p < p' → p' ≤ n → P X d p') → P 6 d p) (h7 : ∀ d p, p ≤ n → (∀ X d p', p < p' → p' ≤ n → P X d p') → P 7 d p) (h8 : ∀ d p, p ≤ n → (∀ X d p', p < p' → p' ≤ n → P X d p') → P 5 d p → P 8 d p) (h9 : ∀ d p, p ≤ n → (∀ X d p', p < p' → p' ≤ n → P X d p') → P 9 d p) (h10 : ∀ d p, p ≤ n → (∀ X d p', p < p' → p' ≤ n → P X d p') → P 8 d p → P 10 d p) (h11 : ∀ d p, p ≤ n → (∀ X d p', p < p' → p' ≤ n → P X d p') → P 11 d p) (h12 : ∀ d p, p ≤ n → (∀ X d p', p < p' → p' ≤ n → P X d p') → P 11 d p → P 12 d p) (h15 : ∀ d p, p ≤ n → (∀ X d p', p < p' → p' ≤ n → P X d p') → P 6 d p → P 15 d p) (h16 : ∀ d p, p ≤ n → (∀ X d p', p < p' → p' ≤ n → P X d p') → P 15 d p → P 16 d p) (h17 : ∀ d p, p ≤ n → (∀ X d p', p < p' → p' ≤ n → P X d p') → P 3 0 (wSk n B p) → P 10 0 (wSk n B p) → P 17 d p) (h18 : ∀ d p, p ≤ n → (∀ X d p', p < p' → p' ≤ n → P X d p') → P 18 d p) (hx : ∀ X d p, (13 ≤ X ∧ X ≤ 14) ∨ 19 ≤ X → P X d p) : ∀ X d p, p ≤ n → P X d p := by
  have key : ∀ k p, n - p ≤ k → p ≤ n → ∀ X d, P X d p := by
    intro k
    induction k with
    | zero =>
      intro p a1 a2
      have ih : ∀ X d p', p < p' → p' ≤ n → P X d p' := fun X d p' b1 b2 => by omega
      have s := wSk_le (B := B) a2
      have ep : wSk n B p = p := by omega
      intro X d
      have f0 := fun d => h0 d p a2 ih
      have f1 := fun d => h1 d p a2 ih (f0 d)
      have f3 := fun d => h3 d p a2 ih (f1 d)
      have f5 := fun d => h5 d p a2 ih (by rw [ep]; exact f3 d)
      have f8 := fun d => h8 d p a2 ih (f5 d)
      have f10 := fun d => h10 d p a2 ih (f8 d)
      have f6 := fun d => h6 d p a2 ih
      have f15 := fun d => h15 d p a2 ih (f6 d)
      have f11 := fun d => h11 d p a2 ih
      match X with
      | 0 => exact f0 d
      | 1 => exact f1 d
      | 2 => exact h2 d p a2 ih
      | 3 => exact f3 d
      | 4 => exact h4 d p a2 ih
      | 5 => exact f5 d
      | 6 => exact f6 d
      | 7 => exact h7 d p a2 ih
      | 8 => exact f8 d
      | 9 => exact h9 d p a2 ih
      | 10 => exact f10 d
      | 11 => exact f11 d
      | 12 => exact h12 d p a2 ih (f11 d)
      | 13 => exact hx 13 d p (by omega)
      | 14 => exact hx 14 d p (by omega)
      | 15 => exact f15 d
      | 16 => exact h16 d p a2 ih (f15 d)
      | 17 => exact h17 d p a2 ih (by rw [ep]; exact f3 0) (by rw [ep]; exact f10 0)
      | 18 => exact h18 d p a2 ih
      | X + 19 => exact hx _ d p (by omega)
    | succ k hk =>
      intro p a1 a2
      have ih : ∀ X d p', p < p' → p' ≤ n → P X d p' := fun X d p' b1 b2 => hk p' (by omega) b2 X d
      have s := wSk_le (B := B) a2
      intro X d
      have f0 := fun d => h0 d p a2 ih
      have f1 := fun d => h1 d p a2 ih (f0 d)
      have f3 := fun d => h3 d p a2 ih (f1 d)
      have g3 : ∀ d, P 3 d (wSk n B p) := fun d => by
        rcases Nat.lt_or_ge p (wSk n B p) with z | z
        · exact ih 3 d _ z s.2
        · rw [show wSk n B p = p by omega]
          exact f3 d
      have f5 := fun d => h5 d p a2 ih (g3 d)
      have f8 := fun d => h8 d p a2 ih (f5 d)
      have f10 := fun d => h10 d p a2 ih (f8 d)
      have g10 : ∀ d, P 10 d (wSk n B p) := fun d => by
        rcases Nat.lt_or_ge p (wSk n B p) with z | z
        · exact ih 10 d _ z s.2
        · rw [show wSk n B p = p by omega]
          exact f10 d
      have f6 := fun d => h6 d p a2 ih
      have f15 := fun d => h15 d p a2 ih (f6 d)
      have f11 := fun d => h11 d p a2 ih
      match X with
      | 0 => exact f0 d
      | 1 => exact f1 d
      | 2 => exact h2 d p a2 ih
      | 3 => exact f3 d
      | 4 => exact h4 d p a2 ih
      | 5 => exact f5 d
      | 6 => exact f6 d
      | 7 => exact h7 d p a2 ih
      | 8 => exact f8 d
      | 9 => exact h9 d p a2 ih
      | 10 => exact f10 d
      | 11 => exact f11 d
      | 12 => exact h12 d p a2 ih (f11 d)
      | 13 => exact hx 13 d p (by omega)
      | 14 => exact hx 14 d p (by omega)
      | 15 => exact f15 d
      | 16 => exact h16 d p a2 ih (f15 d)
      | 17 => exact h17 d p a2 ih (g3 0) (g10 0)
      | 18 => exact h18 d p a2 ih
      | X + 19 => exact hx _ d p (by omega)
  exact fun X d p hp => key (n - p) p (Nat.le_refl _) hp X d
/-- how long: no longer than the text -/
noncomputable def eLn (c : Bool) (n : Nat) (B : Nat → Int) (X d p : Nat) : Prop := wX X = true → (X = 11 ∨ X = 12 ∨ X = 17 ∨ X = 18 → d = 0) → ∀ a : Nat, wG n B X d p = (a : Int) → (eG c n B X d p).length + p + (if X = 11 then 2 else if X = 12 then 1 else 0) ≤ a
theorem eLn_seq {X Y Z d p : Nat} (hX : ¬ X = 11 ∧ ¬ X = 12) (hY : ¬ Y = 11 ∧ ¬ Y = 12 ∧ ¬ Y = 17 ∧ ¬ Y = 18) (hZ : ¬ Z = 11 ∧ ¬ Z = 12 ∧ ¬ Z = 17 ∧ ¬ Z = 18) (hwX : wX Y = true) (hwZ : wX Z = true) (hS : wS Y = 1) (hp : p ≤ n) (ih : ∀ X d p', p < p' → p' ≤ n → eLn c n B X d p') (hl : eLn c n B Y d p) (ew : wG n B X d p = wBd (wG n B Y d p) (fun a => wG n B Z d a)) (ee : eG c n B X d p = eG c n B Y d p ++ eBd (wG n B Y d p) (fun a => eG c n B Z d a)) : eLn c n B X d p := by
  intro _ _ a ha
  rw [if_neg hX.1, if_neg hX.2]
  rw [ew] at ha
  rcases wBd_cs (k := fun a => wG n B Z d a) (wG_gd (n := n) (B := B) Y d p hwX hp) with ⟨z1, z2⟩ | ⟨u, z1, z2, z3, z4⟩
  · omega
  · rw [ee, eBd_u z1, List.length_append]
    rw [hS] at z2
    have l1 := hl hwX (fun q => by omega)  u z1
    have l2 := ih Z d u (by omega) z3 hwZ (fun q => by omega)  a (z4.symm.trans ha)
    rw [if_neg hY.1, if_neg hY.2.1] at l1
    rw [if_neg hZ.1, if_neg hZ.2.1] at l2
    omega
theorem eLn_tail {X Y d p : Nat} {s : Int} (hX : ¬ X = 11 ∧ ¬ X = 12 ∧ ¬ X = 17 ∧ ¬ X = 18) (hY : ¬ Y = 11 ∧ ¬ Y = 12 ∧ ¬ Y = 17 ∧ ¬ Y = 18) (hwX : wX Y = true) (hwX2 : wX X = true) (hS : wS Y = 1) (hp : p ≤ n) (hq : wSk n B p < n) (ih : ∀ X d p', p < p' → p' ≤ n → eLn c n B X d p') (ew : wG n B X d p = wBd (wG n B Y d (wSk n B p + 1)) (fun a => wG n B X d a)) (ee : eG c n B X d p = eG c n B Y d (wSk n B p + 1) ++ eBd (wG n B Y d (wSk n B p + 1)) (fun a => s :: eG c n B X d a)) : eLn c n B X d p := by
  intro _ _ a ha
  rw [if_neg hX.1, if_neg hX.2.1]
  rw [ew] at ha
  have s0 := wSk_le (B := B) hp
  rcases wBd_cs (k := fun a => wG n B X d a) (wG_gd (n := n) (B := B) Y d (wSk n B p + 1) hwX (by omega)) with ⟨z1, z2⟩ | ⟨u, z1, z2, z3, z4⟩
  · omega
  · rw [ee, eBd_u z1, List.length_append, List.length_cons]
    rw [hS] at z2
    have l1 := ih Y d (wSk n B p + 1) (by omega) (by omega) hwX (fun q => by omega)  u z1
    have l2 := ih X d u (by omega) z3 hwX2 (fun q => by omega)  a (z4.symm.trans ha)
    rw [if_neg hY.1, if_neg hY.2.1] at l1
    rw [if_neg hX.1, if_neg hX.2.1] at l2
    omega
theorem eLn_end {X d p : Nat} (hX : ¬ X = 11 ∧ ¬ X = 12) (hp : p ≤ n) (ew : wG n B X d p = (wSk n B p : Int)) (ee : eG c n B X d p = []) : eLn c n B X d p := by
  intro _ _ a ha
  rw [if_neg hX.1, if_neg hX.2, ee]
  have s0 := wSk_le (B := B) hp
  show 0 + p + 0 ≤ a
  omega
/-- a value that is a place again -/
theorem wFl_n {q : Nat} {a : Nat} (h : wFl q = (a : Int)) : False := by
  unfold wFl at h
  omega
theorem wNu_p {q : Nat} {a : Nat} (h : wNu n B q = (a : Int)) : q + 1 ≤ a := by
  unfold wNu at h
  repeat' split at h
  all_goals first | exact (wFl_n h).elim | omega
theorem eLn_all : ∀ X d p, p ≤ n → eLn c n B X d p := by
  refine eInd (B := B) ?_ ?_ ?_ ?_ ?_ ?_ ?_ ?_ ?_ ?_ ?_ ?_ ?_ ?_ ?_ ?_ ?_ ?_
  · intro d p hp ih _ _ a ha
    rw [if_neg (by decide), if_neg (by decide)]
    have s0 := wSk_le (B := B) hp
    rw [wE_AT hp] at ha
    rw [eE_AT hp]
    by_cases h1 : wCh n B (wSk n B p) = 91
    · have := wCh_lt (n := n) (B := B) (p := wSk n B p) (by omega)
      rw [if_pos h1] at ha ⊢
      by_cases h2 : 6 ≤ d
      · rw [if_pos h2] at ha
        exact (wFl_n ha).elim
      · rw [if_neg h2] at ha ⊢
        rcases wBd_cs (k := fun s => if wCh n B (wSk n B s) = 93 then (wSk n B s : Int) + 1 else wFl (wSk n B s)) (wG_gd (n := n) (B := B) 3 (d + 1) (wSk n B p + 1) rfl (by omega)) with ⟨z1, z2⟩ | ⟨u, z1, z2, z3, z4⟩
        · omega
        · have l1 := ih 3 (d + 1) (wSk n B p + 1) (by omega) (by omega) rfl (fun q => by omega) u z1
          rw [if_neg (by decide), if_neg (by decide)] at l1
          rw [z4] at ha
          have s1 := wSk_le (n := n) (B := B) (p := u) z3
          by_cases h3 : wCh n B (wSk n B u) = 93
          · rw [if_pos h3] at ha
            omega
          · rw [if_neg h3] at ha
            exact (wFl_n ha).elim
    · rw [if_neg h1] at ha ⊢
      by_cases h2 : wCh n B (wSk n B p) = 100 ∨ wCh n B (wSk n B p) = 101 ∨ wCh n B (wSk n B p) = 104 ∨ wCh n B (wSk n B p) = 105 ∨ wCh n B (wSk n B p) = 110 ∨ wCh n B (wSk n B p) = 119
      · rw [if_pos h2] at ha ⊢
        show 1 + p + 0 ≤ a
        omega
      · rw [if_neg h2] at ha ⊢
        by_cases h3 : 48 ≤ wCh n B (wSk n B p) ∧ wCh n B (wSk n B p) ≤ 57
        · rw [if_pos h3] at ha ⊢
          have := wNu_p ha
          rw [if_neg (by omega)]
          show 1 + p + 0 ≤ a
          omega
        · rw [if_neg h3] at ha
          exact (wFl_n ha).elim
  · exact fun d p hp ih h => eLn_seq (by decide) (by decide) (by decide) rfl rfl rfl hp ih h (wE_TM hp) (eE_TM hp)
  · intro d p hp ih
    by_cases hc : wCh n B (wSk n B p) = 42 ∨ wCh n B (wSk n B p) = 47
    · exact eLn_tail (by decide) (by decide) rfl rfl rfl hp (wCh_lt (n := n) (B := B) (p := wSk n B p) (by omega)) ih ((wE_TT hp).trans (if_pos hc)) ((eE_TT hp).trans (if_pos hc))
    · exact eLn_end (by decide) hp ((wE_TT hp).trans (if_neg hc)) ((eE_TT hp).trans (if_neg hc))
  · exact fun d p hp ih h => eLn_seq (by decide) (by decide) (by decide) rfl rfl rfl hp ih h (wE_SU hp) (eE_SU hp)
  · intro d p hp ih
    by_cases hc : wCh n B (wSk n B p) = 43 ∨ wCh n B (wSk n B p) = 45
    · exact eLn_tail (by decide) (by decide) rfl rfl rfl hp (wCh_lt (n := n) (B := B) (p := wSk n B p) (by omega)) ih ((wE_ST hp).trans (if_pos hc)) ((eE_ST hp).trans (if_pos hc))
    · exact eLn_end (by decide) hp ((wE_ST hp).trans (if_neg hc)) ((eE_ST hp).trans (if_neg hc))
  · intro d p hp ih h3 _ _ a ha
    rw [if_neg (by decide), if_neg (by decide)]
    have s0 := wSk_le (B := B) hp
    rw [wE_UN hp] at ha
    rw [eE_UN hp]
    by_cases h1 : wCh n B (wSk n B p) = 33
    · have := wCh_lt (n := n) (B := B) (p := wSk n B p) (by omega)
      rw [if_pos h1] at ha ⊢
      by_cases h2 : 6 ≤ d
      · rw [if_pos h2] at ha
        exact (wFl_n ha).elim
      · rw [if_neg h2] at ha ⊢
        have l1 := ih 5 (d + 1) (wSk n B p + 1) (by omega) (by omega) rfl (fun q => by omega) a ha
        rw [if_neg (by decide), if_neg (by decide)] at l1
        rw [eBd_u ha, List.length_append]
        show _ + 1 + p + 0 ≤ a
        omega
    · rw [if_neg h1] at ha ⊢
      by_cases h4 : wCh n B (wSk n B p) = 40
      · have := wCh_lt (n := n) (B := B) (p := wSk n B p) (by omega)
        rw [if_pos h4] at ha ⊢
        by_cases h2 : 6 ≤ d
        · rw [if_pos h2] at ha
          exact (wFl_n ha).elim
        · rw [if_neg h2] at ha ⊢
          rcases wBd_cs (k := fun s => if wCh n B (wSk n B s) = 41 then (wSk n B s : Int) + 1 else wFl (wSk n B s)) (wG_gd (n := n) (B := B) 10 (d + 1) (wSk n B p + 1) rfl (by omega)) with ⟨z1, z2⟩ | ⟨u, z1, z2, z3, z4⟩
          · omega
          · have l1 := ih 10 (d + 1) (wSk n B p + 1) (by omega) (by omega) rfl (fun q => by omega) u z1
            rw [if_neg (by decide), if_neg (by decide)] at l1
            rw [z4] at ha
            have s1 := wSk_le (n := n) (B := B) (p := u) z3
            by_cases h5 : wCh n B (wSk n B u) = 41
            · rw [if_pos h5] at ha
              omega
            · rw [if_neg h5] at ha
              exact (wFl_n ha).elim
      · rw [if_neg h4] at ha ⊢
        rcases wBd_cs (k := fun s => wG n B 6 d s) (wG_gd (n := n) (B := B) 3 d (wSk n B p) rfl s0.2) with ⟨z1, z2⟩ | ⟨u, z1, z2, z3, z4⟩
        · omega
        · rw [show wS 3 = 1 from rfl] at z2
          have l1 := h3 rfl (fun q => by omega) u z1
          have l2 := ih 6 d u (by omega) z3 rfl (fun q => by omega) a (z4.symm.trans ha)
          rw [if_neg (by decide), if_neg (by decide)] at l1 l2
          rw [eBd_u z1, List.length_append]
          omega
  · intro d p hp ih _ _ a ha
    rw [if_neg (by decide), if_neg (by decide)]
    have s0 := wSk_le (B := B) hp
    rw [wE_CM hp] at ha
    rw [eE_CM hp]
    by_cases hc : 60 ≤ wCh n B (wSk n B p) ∧ wCh n B (wSk n B p) ≤ 62
    · have := wCh_lt (n := n) (B := B) (p := wSk n B p) (by omega)
      rw [if_pos hc] at ha ⊢
      have l1 := ih 3 d (wSk n B p + 1) (by omega) (by omega) rfl (fun q => by omega) a ha
      rw [if_neg (by decide), if_neg (by decide)] at l1
      rw [eBd_u ha, List.length_append]
      show _ + 1 + p + 0 ≤ a
      omega
    · rw [if_neg hc] at ha
      exact (wFl_n ha).elim
  · intro d p hp ih
    by_cases hc : wCh n B (wSk n B p) = 38
    · exact eLn_tail (by decide) (by decide) rfl rfl rfl hp (wCh_lt (n := n) (B := B) (p := wSk n B p) (by omega)) ih ((wE_AN hp).trans (if_pos hc)) ((eE_AN hp).trans (if_pos hc))
    · exact eLn_end (by decide) hp ((wE_AN hp).trans (if_neg hc)) ((eE_AN hp).trans (if_neg hc))
  · exact fun d p hp ih h => eLn_seq (by decide) (by decide) (by decide) rfl rfl rfl hp ih h (wE_TR hp) (eE_TR hp)
  · intro d p hp ih
    by_cases hc : wCh n B (wSk n B p) = 124
    · exact eLn_tail (by decide) (by decide) rfl rfl rfl hp (wCh_lt (n := n) (B := B) (p := wSk n B p) (by omega)) ih ((wE_OT hp).trans (if_pos hc)) ((eE_OT hp).trans (if_pos hc))
    · exact eLn_end (by decide) hp ((wE_OT hp).trans (if_neg hc)) ((eE_OT hp).trans (if_neg hc))
  · exact fun d p hp ih h => eLn_seq (by decide) (by decide) (by decide) rfl rfl rfl hp ih h (wE_CO hp) (eE_CO hp)
  · intro d p hp ih _ hd a ha
    obtain rfl := hd (Or.inl rfl)
    rw [if_pos rfl]
    have s0 := wSk_le (B := B) hp
    rw [wE_CL hp] at ha
    rw [eE_CL hp]
    by_cases h1 : wCh n B (wSk n B p) = 121
    · have l0 := wCh_lt (n := n) (B := B) (p := wSk n B p) (by omega)
      have s1 := wSk_le (n := n) (B := B) (p := wSk n B p + 1) (by omega)
      rw [if_pos h1] at ha ⊢
      by_cases h2 : wCh n B (wSk n B (wSk n B p + 1)) = 58
      · have := wCh_lt (n := n) (B := B) (p := wSk n B (wSk n B p + 1)) (by omega)
        rw [if_pos h2] at ha ⊢
        have l1 := ih 17 0 (wSk n B (wSk n B p + 1) + 1) (by omega) (by omega) rfl (fun _ => rfl) a ha
        rw [if_neg (by decide), if_neg (by decide)] at l1
        omega
      · rw [if_neg h2] at ha
        exact (wFl_n ha).elim
    · rw [if_neg h1] at ha
      exact (wFl_n ha).elim
  · intro d p hp ih h11 _ hd a ha
    obtain rfl := hd (Or.inr (Or.inl rfl))
    rw [if_neg (by decide), if_pos rfl]
    rw [wE_LT hp] at ha
    rw [eE_LT hp]
    rcases wBd_cs (k := fun a => if wCh n B (wSk n B a) = 59 then wG n B 12 0 (wSk n B a + 1) else if wCh n B (wSk n B a) = 0 then (wSk n B a : Int) else wFl (wSk n B a)) (wG_gd (n := n) (B := B) 11 0 p rfl hp) with ⟨z1, z2⟩ | ⟨u, z1, z2, z3, z4⟩
    · omega
    · rw [z4] at ha
      rw [eBd_u z1, List.length_append, List.length_append]
      have l1 := h11 rfl (fun _ => rfl) u z1
      rw [if_pos rfl] at l1
      have s1 := wSk_le (n := n) (B := B) (p := u) z3
      have lc : (if c = true then [-59] else ([] : List Int)).length ≤ 1 := by
        cases c <;> decide
      by_cases h2 : wCh n B (wSk n B u) = 59
      · have := wCh_lt (n := n) (B := B) (p := wSk n B u) (by omega)
        rw [if_pos h2] at ha ⊢
        have l2 := ih 12 0 (wSk n B u + 1) (by omega) (by omega) rfl (fun _ => rfl) a ha
        rw [if_neg (by decide), if_pos rfl] at l2
        omega
      · rw [if_neg h2] at ha ⊢
        by_cases h3 : wCh n B (wSk n B u) = 0
        · rw [if_pos h3] at ha
          show _ + (_ + 0) + p + 1 ≤ a
          omega
        · rw [if_neg h3] at ha
          exact (wFl_n ha).elim
  · exact fun d p hp ih h => eLn_seq (by decide) (by decide) (by decide) rfl rfl rfl hp ih h (wE_TB hp) (eE_TB hp)
  · exact fun d p hp ih h => eLn_seq (by decide) (by decide) (by decide) rfl rfl rfl hp ih h (wE_CB hp) (eE_CB hp)
  · intro d p hp ih h3 h10 _ hd a ha
    obtain rfl := hd (Or.inr (Or.inr (Or.inl rfl)))
    rw [if_neg (by decide), if_neg (by decide)]
    have s0 := wSk_le (B := B) hp
    rw [wE_C1 hp] at ha
    rw [eE_C1 hp]
    by_cases hc : wCh n B (wSk n B p) = 33 ∨ wCh n B (wSk n B p) = 40
    · rw [if_pos hc] at ha ⊢
      rcases wBd_cs (k := fun a => wG n B 18 0 a) (wG_gd (n := n) (B := B) 10 0 (wSk n B p) rfl s0.2) with ⟨z1, z2⟩ | ⟨u, z1, z2, z3, z4⟩
      · omega
      · rw [show wS 10 = 1 from rfl] at z2
        have l1 := h10 rfl (fun q => by omega) u z1
        have l2 := ih 18 0 u (by omega) z3 rfl (fun _ => rfl) a (z4.symm.trans ha)
        rw [if_neg (by decide), if_neg (by decide)] at l1 l2
        rw [eBd_u z1, List.length_append]
        omega
    · rw [if_neg hc] at ha ⊢
      rcases wBd_cs (k := fun s => if 60 ≤ wCh n B (wSk n B s) ∧ wCh n B (wSk n B s) ≤ 62 then wBd (wG n B 16 0 (wSk n B s)) (fun b => wG n B 18 0 b) else (wSk n B s : Int)) (wG_gd (n := n) (B := B) 3 0 (wSk n B p) rfl s0.2) with ⟨z1, z2⟩ | ⟨u, z1, z2, z3, z4⟩
      · omega
      · rw [show wS 3 = 1 from rfl] at z2
        rw [z4] at ha
        have l1 := h3 rfl (fun q => by omega) u z1
        rw [if_neg (by decide), if_neg (by decide)] at l1
        rw [eBd_u z1, List.length_append]
        have s1 := wSk_le (n := n) (B := B) (p := u) z3
        by_cases h2 : 60 ≤ wCh n B (wSk n B u) ∧ wCh n B (wSk n B u) ≤ 62
        · rw [if_pos h2] at ha ⊢
          rcases wBd_cs (k := fun b => wG n B 18 0 b) (wG_gd (n := n) (B := B) 16 0 (wSk n B u) rfl s1.2) with ⟨y1, y2⟩ | ⟨v, y1, y2, y3, y4⟩
          · omega
          · rw [show wS 16 = 1 from rfl] at y2
            have l2 := ih 16 0 (wSk n B u) (by omega) s1.2 rfl (fun q => by omega) v y1
            have l3 := ih 18 0 v (by omega) y3 rfl (fun _ => rfl) a (y4.symm.trans ha)
            rw [if_neg (by decide), if_neg (by decide)] at l2 l3
            rw [eBd_u y1, List.length_append]
            omega
        · rw [if_neg h2] at ha ⊢
          show _ + 0 + p + 0 ≤ a
          omega
  · intro d p hp ih _ hd a ha
    obtain rfl := hd (Or.inr (Or.inr (Or.inr rfl)))
    rw [if_neg (by decide), if_neg (by decide)]
    have s0 := wSk_le (B := B) hp
    rw [wE_C2 hp] at ha
    rw [eE_C2 hp]
    by_cases h1 : wCh n B (wSk n B p) = 63
    · have := wCh_lt (n := n) (B := B) (p := wSk n B p) (by omega)
      rw [if_pos h1] at ha ⊢
      have l1 := ih 3 0 (wSk n B p + 1) (by omega) (by omega) rfl (fun q => by omega) a ha
      rw [if_neg (by decide), if_neg (by decide)] at l1
      have lc : (if c = true then [-63] else ([] : List Int)).length ≤ 1 := by
        cases c <;> decide
      rw [List.length_append]
      omega
    · rw [if_neg h1] at ha
      exact (wFl_n ha).elim
  · intro X d p hX hw
    unfold wX at hw
    rw [Bool.or_eq_true, Bool.and_eq_true, decide_eq_true_eq, decide_eq_true_eq, decide_eq_true_eq] at hw
    omega
end EIND
/-! the reference's codes of tokens -/
section MCD
noncomputable def mCd (v : Int) : Int := if 10000 ≤ v then 1 else if 0 ≤ v then 0 else if v = -43 then 2 else if v = -45 then 3 else if v = -42 then 4 else if v = -47 then 5 else if v = -61 then 6 else if v = -60 then 7 else if v = -62 then 8 else if v = -33 then 9 else if v = -38 then 10 else 11
noncomputable def mVl (v : Int) : Int := if 10000 ≤ v then v - 10000 else if 0 ≤ v then v else 0
theorem mS43 : mCd (-43) = 2 ∧ mVl (-43) = 0 := by simp [mCd, mVl]
theorem mS45 : mCd (-45) = 3 ∧ mVl (-45) = 0 := by simp [mCd, mVl]
theorem mS42 : mCd (-42) = 4 ∧ mVl (-42) = 0 := by simp [mCd, mVl]
theorem mS47 : mCd (-47) = 5 ∧ mVl (-47) = 0 := by simp [mCd, mVl]
theorem mS61 : mCd (-61) = 6 ∧ mVl (-61) = 0 := by simp [mCd, mVl]
theorem mS60 : mCd (-60) = 7 ∧ mVl (-60) = 0 := by simp [mCd, mVl]
theorem mS62 : mCd (-62) = 8 ∧ mVl (-62) = 0 := by simp [mCd, mVl]
theorem mS33 : mCd (-33) = 9 ∧ mVl (-33) = 0 := by simp [mCd, mVl]
theorem mS38 : mCd (-38) = 10 ∧ mVl (-38) = 0 := by simp [mCd, mVl]
theorem mS124 : mCd (-124) = 11 ∧ mVl (-124) = 0 := by simp [mCd, mVl]
theorem mSl {i : Int} (h : 0 ≤ i) : mCd (10000 + i) = 1 ∧ mVl (10000 + i) = i := by
  unfold mCd mVl
  rw [if_pos (by omega), if_pos (by omega)]
  omega
theorem mSn {y : Int} (h : 0 ≤ y) (h2 : y ≤ 9999) : mCd y = 0 ∧ mVl y = y := by
  unfold mCd mVl
  rw [if_neg (by omega), if_pos h, if_neg (by omega), if_pos h]
  exact ⟨rfl, rfl⟩
end MCD
