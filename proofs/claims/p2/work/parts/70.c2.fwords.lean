/-! the words of a fort: what a reader makes of its items and clauses -/
section FWORDS
variable (n : Nat) (B : Nat → Int)
noncomputable def fIt (s : Nat) (c : Int) : Nat := if s = 0 then (if c = 104 then 0 else if c = 110 then 1 else if c = 99 then 2 else 9) else (if c = 110 then 0 else if c = 100 then 1 else if c = 101 then 2 else if c = 98 then 3 else 9)
noncomputable def fLo (s k : Nat) : Int := if s = 0 then (if k = 0 then 4 else if k = 1 then 1 else 0) else 0
noncomputable def fHi (s k : Nat) : Int := if s = 0 then (if k = 0 then 10 else if k = 1 then 20 else 99) else (if k = 0 then 10 else 9)
noncomputable def fDf (s k : Nat) : Int := if s = 0 then (if k = 0 then 8 else if k = 1 then 7 else 20) else (if k = 2 then 5 else if k = 3 then 0 else 3)
noncomputable def fNr (t : Nat) : Int := if 48 ≤ wCh n B t ∧ wCh n B t ≤ 57 then (if 48 ≤ wCh n B (t + 1) ∧ wCh n B (t + 1) ≤ 57 then (if 48 ≤ wCh n B (t + 2) ∧ wCh n B (t + 2) ≤ 57 then wFl (t + 2) else (t : Int) + 2) else (t : Int) + 1) else wFl t
noncomputable def fNv (t : Nat) : Int := if 48 ≤ wCh n B (t + 1) ∧ wCh n B (t + 1) ≤ 57 then 10 * wCh n B t + wCh n B (t + 1) - 528 else wCh n B t - 48
noncomputable def fBt (g k : Nat) : Nat := if k = 0 then g % 2 else if k = 1 then g / 2 % 2 else if k = 2 then g / 4 % 2 else g / 8 % 2
noncomputable def fPw (k : Nat) : Nat := if k = 0 then 1 else if k = 1 then 2 else if k = 2 then 4 else 8
noncomputable def fFu (g : Nat) : Nat := 5 - (g % 2 + g / 2 % 2 + g / 4 % 2 + g / 8 % 2)
/-- the item that the reader stands at; where its number begins -/
noncomputable def fK (s p : Nat) : Nat := fIt s (wCh n B (wSk n B p))
noncomputable def fT (p : Nat) : Nat := wSk n B (wSk n B p + 1)
noncomputable def fBad (s p : Nat) : Prop := fNv n B (fT n B p) < fLo s (fK n B s p) ∨ fHi s (fK n B s p) < fNv n B (fT n B p)
noncomputable def fITf (s : Nat) : Nat → Nat → Nat → Int
  | 0, _, p => (wSk n B p : Int)
  | f + 1, g, p => if fK n B s p = 9 then (wSk n B p : Int) else if fBt g (fK n B s p) = 1 then wFl (wSk n B p) else if fNr n B (fT n B p) < 0 then fNr n B (fT n B p) else if fNv n B (fT n B p) < fLo s (fK n B s p) ∨ fHi s (fK n B s p) < fNv n B (fT n B p) then -fNr n B (fT n B p) else fITf s f (g + fPw (fK n B s p)) (fNr n B (fT n B p)).toNat
noncomputable def fIVf (s j : Nat) : Nat → Nat → Nat → Int → Int
  | 0, _, _, v => v
  | f + 1, g, p, v => if fK n B s p = 9 then v else if fBt g (fK n B s p) = 1 then v else if fNr n B (fT n B p) < 0 then v else if fNv n B (fT n B p) < fLo s (fK n B s p) ∨ fHi s (fK n B s p) < fNv n B (fT n B p) then v else fIVf s j f (g + fPw (fK n B s p)) (fNr n B (fT n B p)).toNat (if fK n B s p = j then fNv n B (fT n B p) else v)
noncomputable def fI (s g p : Nat) : Int := fITf n B s (fFu g) g p
noncomputable def fV (s j g p : Nat) (v : Int) : Int := fIVf n B s j (fFu g) g p v
/-- a clause of the fort, with its rules read (h) or not, m men read -/
noncomputable def fRu (h p : Nat) : Prop := wCh n B (wSk n B p) = 115 ∧ h = 0
noncomputable def fMa (h m p : Nat) : Prop := ¬ (wCh n B (wSk n B p) = 115 ∧ h = 0) ∧ wCh n B (wSk n B p) = 109 ∧ m < 6
noncomputable def fCl (h m p : Nat) : Int := if wCh n B (wSk n B p) = 115 ∧ h = 0 then fI n B 0 0 (wSk n B p + 1) else if wCh n B (wSk n B p) = 109 ∧ m < 6 then fI n B 1 0 (wSk n B p + 1) else wFl (wSk n B p)
noncomputable def fHn (h p : Nat) : Nat := if wCh n B (wSk n B p) = 115 ∧ h = 0 then 1 else h
noncomputable def fMn (h m p : Nat) : Nat := if wCh n B (wSk n B p) = 115 ∧ h = 0 then m else m + 1
/-- the end or the fault; how many men; where each man's items begin, and the rules' (0: none) -/
noncomputable def fWf : Nat → Nat → Nat → Nat → Int × Nat × (Nat → Nat) × Nat
  | 0, _, m, p => ((p : Int), m, fun _ => 0, 0)
  | f + 1, h, m, p => if fCl n B h m p < 0 then (fCl n B h m p, m, fun _ => 0, 0)
    else if wCh n B (wSk n B (fCl n B h m p).toNat) = 59 then ((fWf f (fHn n B h p) (fMn n B h m p) (wSk n B (fCl n B h m p).toNat + 1)).1, (fWf f (fHn n B h p) (fMn n B h m p) (wSk n B (fCl n B h m p).toNat + 1)).2.1, (fun i => if ¬ (wCh n B (wSk n B p) = 115 ∧ h = 0) ∧ i = m then wSk n B p + 1 else (fWf f (fHn n B h p) (fMn n B h m p) (wSk n B (fCl n B h m p).toNat + 1)).2.2.1 i), if wCh n B (wSk n B p) = 115 ∧ h = 0 then wSk n B p + 1 else (fWf f (fHn n B h p) (fMn n B h m p) (wSk n B (fCl n B h m p).toNat + 1)).2.2.2)
    else ((if wCh n B (wSk n B (fCl n B h m p).toNat) = 0 then (wSk n B (fCl n B h m p).toNat : Int) else wFl (wSk n B (fCl n B h m p).toNat)), fMn n B h m p, (fun i => if ¬ (wCh n B (wSk n B p) = 115 ∧ h = 0) ∧ i = m then wSk n B p + 1 else 0), if wCh n B (wSk n B p) = 115 ∧ h = 0 then wSk n B p + 1 else 0)
noncomputable def fW (h m p : Nat) : Int × Nat × (Nat → Nat) × Nat := fWf n B (n + 1 - p) h m p
noncomputable def fMV (i k : Nat) : Int := fV n B 1 k 0 ((fW n B 0 0 0).2.2.1 i) (fDf 1 k)
noncomputable def fRV (k : Nat) : Int := if (fW n B 0 0 0).2.2.2 = 0 then fDf 0 k else fV n B 0 k 0 ((fW n B 0 0 0).2.2.2) (fDf 0 k)
noncomputable def fOn (h m p : Nat) : Prop := (fW n B h m p).1 = (fW n B 0 0 0).1 ∧ (fW n B h m p).2.1 = (fW n B 0 0 0).2.1 ∧ (∀ i, m ≤ i → (fW n B h m p).2.2.1 i = (fW n B 0 0 0).2.2.1 i) ∧ (h = 0 → (fW n B h m p).2.2.2 = (fW n B 0 0 0).2.2.2)
noncomputable def fWh : Prop := 2 ≤ (fW n B 0 0 0).2.1 ∧ ∀ i, i < (fW n B 0 0 0).2.1 → fMV n B i 0 ≤ fRV n B 0 ∧ fMV n B i 3 < fRV n B 0
end FWORDS
section FWO
variable {n : Nat} {B : Nat → Int}
theorem fIt_4 (s : Nat) (c : Int) : fIt s c = 9 ∨ fIt s c < 4 := by
  unfold fIt
  split <;> repeat' split
  all_goals first | exact Or.inl rfl | exact Or.inr (by decide)
theorem fIt_0 {c : Int} {k : Nat} (h : fIt 0 c = k) : (k = 0 ∧ c = 104) ∨ (k = 1 ∧ c = 110) ∨ (k = 2 ∧ c = 99) ∨ (k = 9 ∧ c ≠ 104 ∧ c ≠ 110 ∧ c ≠ 99) := by
  unfold fIt at h
  rw [if_pos rfl] at h
  split at h
  · exact Or.inl ⟨h.symm, by assumption⟩
  · split at h
    · exact Or.inr (Or.inl ⟨h.symm, by assumption⟩)
    · split at h
      · exact Or.inr (Or.inr (Or.inl ⟨h.symm, by assumption⟩))
      · exact Or.inr (Or.inr (Or.inr ⟨h.symm, by assumption, by assumption, by assumption⟩))
theorem fIt_1 {c : Int} {k : Nat} (h : fIt 1 c = k) : (k = 0 ∧ c = 110) ∨ (k = 1 ∧ c = 100) ∨ (k = 2 ∧ c = 101) ∨ (k = 3 ∧ c = 98) ∨ (k = 9 ∧ c ≠ 110 ∧ c ≠ 100 ∧ c ≠ 101 ∧ c ≠ 98) := by
  unfold fIt at h
  rw [if_neg (by decide)] at h
  split at h
  · exact Or.inl ⟨h.symm, by assumption⟩
  · split at h
    · exact Or.inr (Or.inl ⟨h.symm, by assumption⟩)
    · split at h
      · exact Or.inr (Or.inr (Or.inl ⟨h.symm, by assumption⟩))
      · split at h
        · exact Or.inr (Or.inr (Or.inr (Or.inl ⟨h.symm, by assumption⟩)))
        · exact Or.inr (Or.inr (Or.inr (Or.inr ⟨h.symm, by assumption, by assumption, by assumption, by assumption⟩)))
theorem fIt_ch {s p : Nat} (h : fK n B s p ≠ 9) : wSk n B p < n := by
  refine wCh_lt (B := B) (fun h0 => h ?_)
  unfold fK
  rw [h0]
  unfold fIt
  split <;> rfl
theorem fBt_2 (g k : Nat) : fBt g k = 0 ∨ fBt g k = 1 := by
  unfold fBt
  split
  · omega
  · split
    · omega
    · split <;> omega
theorem fFu_1 (g : Nat) : fFu g = (fFu g - 1) + 1 := by unfold fFu; omega
theorem fFu_n {g k : Nat} (hk : k < 4) (hb : fBt g k = 0) (hg : g < 16) : fFu (g + fPw k) = fFu g - 1 ∧ g + fPw k < 16 := by
  rcases (show k = 0 ∨ k = 1 ∨ k = 2 ∨ k = 3 by omega) with rfl | rfl | rfl | rfl
  · have hb : g % 2 = 0 := hb
    show fFu (g + 1) = _ ∧ g + 1 < 16
    unfold fFu
    omega
  · have hb : g / 2 % 2 = 0 := hb
    show fFu (g + 2) = _ ∧ g + 2 < 16
    unfold fFu
    omega
  · have hb : g / 4 % 2 = 0 := hb
    show fFu (g + 4) = _ ∧ g + 4 < 16
    unfold fFu
    omega
  · have hb : g / 8 % 2 = 0 := hb
    show fFu (g + 8) = _ ∧ g + 8 < 16
    unfold fFu
    omega
theorem fNr_cs {t : Nat} (ht : t ≤ n) : (fNr n B t < 0 ∧ (t : Int) ≤ -fNr n B t - 1 ∧ -fNr n B t - 1 ≤ (n : Int)) ∨ ∃ e : Nat, fNr n B t = (e : Int) ∧ t < e ∧ e ≤ n ∧ 0 ≤ fNv n B t ∧ fNv n B t ≤ 99 := by
  have hd : ∀ p, 48 ≤ wCh n B p ∧ wCh n B p ≤ 57 → p < n := fun p hp => wCh_lt (B := B) (by omega)
  unfold fNr fNv
  by_cases h0 : 48 ≤ wCh n B t ∧ wCh n B t ≤ 57
  · have g0 := hd _ h0
    rw [if_pos h0]
    by_cases h1 : 48 ≤ wCh n B (t + 1) ∧ wCh n B (t + 1) ≤ 57
    · have g1 := hd _ h1
      rw [if_pos h1, if_pos h1]
      by_cases h2 : 48 ≤ wCh n B (t + 2) ∧ wCh n B (t + 2) ≤ 57
      · have g2 := hd _ h2
        rw [if_pos h2]
        unfold wFl
        exact Or.inl ⟨by omega, by omega, by omega⟩
      · rw [if_neg h2]
        exact Or.inr ⟨t + 2, by omega, by omega, by omega, by omega, by omega⟩
    · rw [if_neg h1, if_neg h1]
      exact Or.inr ⟨t + 1, by omega, by omega, by omega, by omega, by omega⟩
  · rw [if_neg h0]
    unfold wFl
    exact Or.inl ⟨by omega, by omega, by omega⟩
theorem fI_eq (s g p : Nat) (hg : g < 16) : fI n B s g p = if fK n B s p = 9 then (wSk n B p : Int) else if fBt g (fK n B s p) = 1 then wFl (wSk n B p) else if fNr n B (fT n B p) < 0 then fNr n B (fT n B p) else if fNv n B (fT n B p) < fLo s (fK n B s p) ∨ fHi s (fK n B s p) < fNv n B (fT n B p) then -fNr n B (fT n B p) else fI n B s (g + fPw (fK n B s p)) (fNr n B (fT n B p)).toNat := by
  unfold fI
  rw [fFu_1 g]
  by_cases h9 : fK n B s p = 9
  · rw [if_pos h9]
    show (if fK n B s p = 9 then _ else _) = _
    rw [if_pos h9]
  · rw [if_neg h9]
    show (if fK n B s p = 9 then _ else _) = _
    rw [if_neg h9]
    by_cases hb : fBt g (fK n B s p) = 1
    · rw [if_pos hb, if_pos hb]
    · rw [if_neg hb, if_neg hb]
      have hk : fK n B s p < 4 := (fIt_4 s _).resolve_left h9
      have hb0 : fBt g (fK n B s p) = 0 := (fBt_2 g _).resolve_right hb
      rw [(fFu_n hk hb0 hg).1]
theorem fV_eq (s j g p : Nat) (v : Int) (hg : g < 16) : fV n B s j g p v = if fK n B s p = 9 then v else if fBt g (fK n B s p) = 1 then v else if fNr n B (fT n B p) < 0 then v else if fNv n B (fT n B p) < fLo s (fK n B s p) ∨ fHi s (fK n B s p) < fNv n B (fT n B p) then v else fV n B s j (g + fPw (fK n B s p)) (fNr n B (fT n B p)).toNat (if fK n B s p = j then fNv n B (fT n B p) else v) := by
  unfold fV
  rw [fFu_1 g]
  by_cases h9 : fK n B s p = 9
  · rw [if_pos h9]
    show (if fK n B s p = 9 then _ else _) = _
    rw [if_pos h9]
  · rw [if_neg h9]
    show (if fK n B s p = 9 then _ else _) = _
    rw [if_neg h9]
    by_cases hb : fBt g (fK n B s p) = 1
    · rw [if_pos hb, if_pos hb]
    · rw [if_neg hb, if_neg hb]
      have hk : fK n B s p < 4 := (fIt_4 s _).resolve_left h9
      have hb0 : fBt g (fK n B s p) = 0 := (fBt_2 g _).resolve_right hb
      rw [(fFu_n hk hb0 hg).1]
/-- what stands at an item -/
theorem fI_cs (s g p : Nat) (hp : p ≤ n) (hg : g < 16) : (fK n B s p = 9 ∧ fI n B s g p = (wSk n B p : Int) ∧ ∀ j v, fV n B s j g p v = v) ∨ (fK n B s p < 4 ∧ wSk n B p < n ∧ ((fBt g (fK n B s p) = 1 ∧ fI n B s g p = wFl (wSk n B p)) ∨ (fBt g (fK n B s p) = 0 ∧ wSk n B p + 1 ≤ fT n B p ∧ fT n B p ≤ n ∧ ((fNr n B (fT n B p) < 0 ∧ fI n B s g p = fNr n B (fT n B p) ∧ (fT n B p : Int) ≤ -fNr n B (fT n B p) - 1 ∧ -fNr n B (fT n B p) - 1 ≤ (n : Int)) ∨ ∃ e : Nat, fNr n B (fT n B p) = (e : Int) ∧ fT n B p < e ∧ e ≤ n ∧ 0 ≤ fNv n B (fT n B p) ∧ fNv n B (fT n B p) ≤ 99 ∧ (((fNv n B (fT n B p) < fLo s (fK n B s p) ∨ fHi s (fK n B s p) < fNv n B (fT n B p)) ∧ fI n B s g p = -(e : Int)) ∨ (fLo s (fK n B s p) ≤ fNv n B (fT n B p) ∧ fNv n B (fT n B p) ≤ fHi s (fK n B s p) ∧ g + fPw (fK n B s p) < 16 ∧ fI n B s g p = fI n B s (g + fPw (fK n B s p)) e ∧ ∀ j v, fV n B s j g p v = fV n B s j (g + fPw (fK n B s p)) e (if fK n B s p = j then fNv n B (fT n B p) else v))))))) := by
  by_cases h9 : fK n B s p = 9
  · refine Or.inl ⟨h9, ?_, fun j v => ?_⟩
    · rw [fI_eq s g p hg, if_pos h9]
    · rw [fV_eq s j g p v hg, if_pos h9]
  · have hk : fK n B s p < 4 := (fIt_4 s _).resolve_left h9
    have hq := fIt_ch h9
    refine Or.inr ⟨hk, hq, ?_⟩
    rcases fBt_2 g (fK n B s p) with hb | hb
    · obtain ⟨t1, t2⟩ := wSk_le (n := n) (B := B) (p := wSk n B p + 1) (by omega)
      refine Or.inr ⟨hb, t1, t2, ?_⟩
      have hb1 : ¬ fBt g (fK n B s p) = 1 := by omega
      rcases fNr_cs (n := n) (B := B) (t := fT n B p) t2 with ⟨a1, a2, a3⟩ | ⟨e, a1, a2, a3, a4, a5⟩
      · exact Or.inl ⟨a1, by rw [fI_eq s g p hg, if_neg h9, if_neg hb1, if_pos a1], a2, a3⟩
      · refine Or.inr ⟨e, a1, a2, a3, a4, a5, ?_⟩
        have hn : ¬ fNr n B (fT n B p) < 0 := by omega
        by_cases hB : fNv n B (fT n B p) < fLo s (fK n B s p) ∨ fHi s (fK n B s p) < fNv n B (fT n B p)
        · exact Or.inl ⟨hB, by rw [fI_eq s g p hg, if_neg h9, if_neg hb1, if_neg hn, if_pos hB, a1]⟩
        · refine Or.inr ⟨by omega, by omega, (fFu_n hk hb hg).2, ?_, fun j v => ?_⟩
          · rw [fI_eq s g p hg, if_neg h9, if_neg hb1, if_neg hn, if_neg hB, a1]
            rfl
          · rw [fV_eq s j g p v hg, if_neg h9, if_neg hb1, if_neg hn, if_neg hB, a1]
            rfl
    · exact Or.inl ⟨hb, by rw [fI_eq s g p hg, if_neg h9, if_pos hb]⟩
theorem fITf_gd (s : Nat) : ∀ (f g p : Nat), p ≤ n → wGd n 0 p (fITf n B s f g p)
  | 0, g, p, hp => by
    obtain ⟨s1, s2⟩ := wSk_le (B := B) hp
    show wGd n 0 p ((wSk n B p : Nat) : Int)
    exact wGd_at (by omega) (by omega)
  | f + 1, g, p, hp => by
    obtain ⟨s1, s2⟩ := wSk_le (B := B) hp
    unfold fITf
    by_cases h9 : fK n B s p = 9
    · rw [if_pos h9]
      exact wGd_at (by omega) (by omega)
    · rw [if_neg h9]
      have hq := fIt_ch h9
      by_cases hb : fBt g (fK n B s p) = 1
      · rw [if_pos hb]
        exact wGd_fl s1 s2
      · rw [if_neg hb]
        obtain ⟨t1, t2⟩ := wSk_le (n := n) (B := B) (p := wSk n B p + 1) (by omega)
        have t1 : wSk n B p + 1 ≤ fT n B p := t1
        have t2 : fT n B p ≤ n := t2
        rcases fNr_cs (n := n) (B := B) (t := fT n B p) t2 with ⟨a1, a2, a3⟩ | ⟨e, a1, a2, a3, a4, a5⟩
        · rw [if_pos a1]
          unfold wGd
          constructor <;> intro _ <;> omega
        · rw [if_neg (by omega)]
          by_cases hB : fNv n B (fT n B p) < fLo s (fK n B s p) ∨ fHi s (fK n B s p) < fNv n B (fT n B p)
          · rw [if_pos hB, a1]
            unfold wGd
            constructor <;> intro _ <;> omega
          · rw [if_neg hB, a1]
            have := fITf_gd s f (g + fPw (fK n B s p)) e a3
            exact wGd_up this (by omega) (by omega)
theorem fI_gd (s g p : Nat) (hp : p ≤ n) : wGd n 0 p (fI n B s g p) := fITf_gd s _ g p hp
theorem fIVf_bd (s j : Nat) : ∀ (f g p : Nat) (v : Int), p ≤ n → 0 ≤ v → v ≤ 99 → 0 ≤ fIVf n B s j f g p v ∧ fIVf n B s j f g p v ≤ 99
  | 0, g, p, v, _, h1, h2 => ⟨h1, h2⟩
  | f + 1, g, p, v, hp, h1, h2 => by
    unfold fIVf
    by_cases h9 : fK n B s p = 9
    · rw [if_pos h9]
      exact ⟨h1, h2⟩
    · rw [if_neg h9]
      have hq := fIt_ch h9
      by_cases hb : fBt g (fK n B s p) = 1
      · rw [if_pos hb]
        exact ⟨h1, h2⟩
      · rw [if_neg hb]
        have t2 : fT n B p ≤ n := (wSk_le (n := n) (B := B) (p := wSk n B p + 1) (by omega)).2
        rcases fNr_cs (n := n) (B := B) (t := fT n B p) t2 with ⟨a1, a2, a3⟩ | ⟨e, a1, a2, a3, a4, a5⟩
        · rw [if_pos a1]
          exact ⟨h1, h2⟩
        · rw [if_neg (by omega)]
          split
          · exact ⟨h1, h2⟩
          · rw [a1]
            refine fIVf_bd s j f _ e _ a3 ?_ ?_ <;> split <;> assumption
theorem fV_bd (s j g p : Nat) {v : Int} (hp : p ≤ n) (h1 : 0 ≤ v) (h2 : v ≤ 99) : 0 ≤ fV n B s j g p v ∧ fV n B s j g p v ≤ 99 := fIVf_bd s j _ g p v hp h1 h2
theorem fIVf_lh (s j : Nat) : ∀ (f g p : Nat) (v : Int), fLo s j ≤ v → v ≤ fHi s j → fLo s j ≤ fIVf n B s j f g p v ∧ fIVf n B s j f g p v ≤ fHi s j
  | 0, g, p, v, h1, h2 => ⟨h1, h2⟩
  | f + 1, g, p, v, h1, h2 => by
    unfold fIVf
    split
    · exact ⟨h1, h2⟩
    · split
      · exact ⟨h1, h2⟩
      · split
        · exact ⟨h1, h2⟩
        · split
          · exact ⟨h1, h2⟩
          · rename_i hB
            refine fIVf_lh s j f _ _ _ ?_ ?_
            · split
              · rename_i hk
                rw [← hk]
                omega
              · exact h1
            · split
              · rename_i hk
                rw [← hk]
                omega
              · exact h2
theorem fV_lh (s j g p : Nat) {v : Int} (h1 : fLo s j ≤ v) (h2 : v ≤ fHi s j) : fLo s j ≤ fV n B s j g p v ∧ fV n B s j g p v ≤ fHi s j := fIVf_lh s j _ g p v h1 h2
theorem fCl_cs (h m p : Nat) (hp : p ≤ n) : (fCl n B h m p < 0 ∧ (p : Int) ≤ -fCl n B h m p - 1 ∧ -fCl n B h m p - 1 ≤ (n : Int)) ∨ ∃ a : Nat, fCl n B h m p = (a : Int) ∧ p < a ∧ a ≤ n := by
  obtain ⟨s1, s2⟩ := wSk_le (B := B) hp
  unfold fCl
  split
  · rename_i hc
    have hq := wCh_lt (n := n) (B := B) (p := wSk n B p) (by omega)
    have := fI_gd (n := n) (B := B) 0 0 (wSk n B p + 1) (by omega)
    by_cases h0 : fI n B 0 0 (wSk n B p + 1) < 0
    · have := this.1 h0
      exact Or.inl ⟨h0, by omega, by omega⟩
    · have := this.2 (by omega)
      exact Or.inr ⟨(fI n B 0 0 (wSk n B p + 1)).toNat, by omega, by omega, by omega⟩
  · split
    · rename_i hc
      have hq := wCh_lt (n := n) (B := B) (p := wSk n B p) (by omega)
      have := fI_gd (n := n) (B := B) 1 0 (wSk n B p + 1) (by omega)
      by_cases h0 : fI n B 1 0 (wSk n B p + 1) < 0
      · have := this.1 h0
        exact Or.inl ⟨h0, by omega, by omega⟩
      · have := this.2 (by omega)
        exact Or.inr ⟨(fI n B 1 0 (wSk n B p + 1)).toNat, by omega, by omega, by omega⟩
    · unfold wFl
      exact Or.inl ⟨by omega, by omega, by omega⟩
/-- with fuel enough the fuel doesn't matter -/
theorem fWf_st : ∀ (f f' h m p : Nat), p ≤ n → n < p + f → n < p + f' → fWf n B f h m p = fWf n B f' h m p
  | 0, f', h, m, p, hp, h1, _ => by omega
  | f + 1, 0, h, m, p, hp, _, h2 => by omega
  | f + 1, f' + 1, h, m, p, hp, h1, h2 => by
    unfold fWf
    rcases fCl_cs (B := B) h m p hp with ⟨a1, a2, a3⟩ | ⟨a, a1, a2, a3⟩
    · rw [if_pos a1, if_pos a1]
    · have hneg : ¬ fCl n B h m p < 0 := by omega
      rw [if_neg hneg, if_neg hneg]
      by_cases hc : wCh n B (wSk n B (fCl n B h m p).toNat) = 59
      · rw [if_pos hc, if_pos hc]
        have ea : (fCl n B h m p).toNat = a := by omega
        rw [ea] at hc ⊢
        obtain ⟨t1, t2⟩ := wSk_le (B := B) a3
        have hq := wCh_lt (n := n) (B := B) (p := wSk n B a) (by omega)
        rw [fWf_st f f' (fHn n B h p) (fMn n B h m p) (wSk n B a + 1) (by omega) (by omega) (by omega)]
      · rw [if_neg hc, if_neg hc]
/-- what stands at a clause -/
theorem fW_cs (h m p : Nat) (hp : p ≤ n) : (fCl n B h m p < 0 ∧ (fW n B h m p).1 = fCl n B h m p ∧ (p : Int) ≤ -fCl n B h m p - 1 ∧ -fCl n B h m p - 1 ≤ (n : Int)) ∨ ∃ a : Nat, fCl n B h m p = (a : Int) ∧ p < a ∧ a ≤ n ∧ ((wCh n B (wSk n B a) = 59 ∧ wSk n B a < n ∧ (fW n B h m p).1 = (fW n B (fHn n B h p) (fMn n B h m p) (wSk n B a + 1)).1 ∧ (fW n B h m p).2.1 = (fW n B (fHn n B h p) (fMn n B h m p) (wSk n B a + 1)).2.1 ∧ (fW n B h m p).2.2.1 = (fun i => if ¬ (wCh n B (wSk n B p) = 115 ∧ h = 0) ∧ i = m then wSk n B p + 1 else (fW n B (fHn n B h p) (fMn n B h m p) (wSk n B a + 1)).2.2.1 i) ∧ (fW n B h m p).2.2.2 = if wCh n B (wSk n B p) = 115 ∧ h = 0 then wSk n B p + 1 else (fW n B (fHn n B h p) (fMn n B h m p) (wSk n B a + 1)).2.2.2) ∨ (wCh n B (wSk n B a) ≠ 59 ∧ (fW n B h m p).1 = (if wCh n B (wSk n B a) = 0 then (wSk n B a : Int) else wFl (wSk n B a)) ∧ (fW n B h m p).2.1 = fMn n B h m p ∧ (fW n B h m p).2.2.1 = (fun i => if ¬ (wCh n B (wSk n B p) = 115 ∧ h = 0) ∧ i = m then wSk n B p + 1 else 0) ∧ (fW n B h m p).2.2.2 = if wCh n B (wSk n B p) = 115 ∧ h = 0 then wSk n B p + 1 else 0)) := by
  have e0 : fW n B h m p = fWf n B ((n - p) + 1) h m p := by
    unfold fW
    rw [show n + 1 - p = (n - p) + 1 by omega]
  rcases fCl_cs (B := B) h m p hp with ⟨a1, a2, a3⟩ | ⟨a, a1, a2, a3⟩
  · refine Or.inl ⟨a1, ?_, a2, a3⟩
    rw [e0]
    unfold fWf
    rw [if_pos a1]
  · refine Or.inr ⟨a, a1, a2, a3, ?_⟩
    obtain ⟨t1, t2⟩ := wSk_le (B := B) a3
    have ea : (fCl n B h m p).toNat = a := by omega
    have hneg : ¬ fCl n B h m p < 0 := by omega
    by_cases hc : wCh n B (wSk n B a) = 59
    · have hq := wCh_lt (n := n) (B := B) (p := wSk n B a) (by omega)
      have es : fWf n B (n - p) (fHn n B h p) (fMn n B h m p) (wSk n B a + 1) = fW n B (fHn n B h p) (fMn n B h m p) (wSk n B a + 1) := fWf_st _ _ _ _ _ (by omega) (by omega) (by omega)
      refine Or.inl ⟨hc, hq, ?_, ?_, ?_, ?_⟩ <;> (rw [e0]; unfold fWf; rw [if_neg hneg, ea, if_pos hc, es])
    · refine Or.inr ⟨hc, ?_, ?_, ?_, ?_⟩ <;> (rw [e0]; unfold fWf; rw [if_neg hneg, ea, if_neg hc])
theorem fWf_gd : ∀ (f h m p : Nat), p ≤ n → n < p + f → m ≤ 6 → wGd n 0 p (fWf n B f h m p).1 ∧ (fWf n B f h m p).2.1 ≤ 6
  | 0, h, m, p, hp, hf, _ => by omega
  | f + 1, h, m, p, hp, hf, hm => by
    unfold fWf
    rcases fCl_cs (B := B) h m p hp with ⟨a1, a2, a3⟩ | ⟨a, a1, a2, a3⟩
    · rw [if_pos a1]
      refine ⟨?_, hm⟩
      unfold wGd
      constructor <;> intro _ <;> omega
    · have ea : (fCl n B h m p).toNat = a := by omega
      have hm' : fMn n B h m p ≤ 6 := by
        unfold fMn
        split
        · exact hm
        · rename_i hr
          have : m < 6 := by
            apply Decidable.byContradiction
            intro hn
            unfold fCl at a1
            rw [if_neg hr, if_neg (fun z => hn z.2)] at a1
            unfold wFl at a1
            omega
          omega
      obtain ⟨t1, t2⟩ := wSk_le (B := B) a3
      have hneg : ¬ fCl n B h m p < 0 := by omega
      rw [if_neg hneg, ea]
      by_cases hc : wCh n B (wSk n B a) = 59
      · rw [if_pos hc]
        have hq := wCh_lt (n := n) (B := B) (p := wSk n B a) (by omega)
        obtain ⟨g1, g2⟩ := fWf_gd f (fHn n B h p) (fMn n B h m p) (wSk n B a + 1) (by omega) (by omega) hm'
        exact ⟨wGd_up g1 (by omega) (by omega), g2⟩
      · rw [if_neg hc]
        refine ⟨?_, hm'⟩
        show wGd n 0 p (if _ then _ else _)
        split
        · exact wGd_at (by omega) (by omega)
        · exact wGd_fl (by omega) t2
theorem fW_gd (h m p : Nat) (hp : p ≤ n) (hm : m ≤ 6) : wGd n 0 p (fW n B h m p).1 ∧ (fW n B h m p).2.1 ≤ 6 := fWf_gd _ h m p hp (by omega) hm
theorem fMn_6 {h m p a : Nat} (hm : m ≤ 6) (ha : fCl n B h m p = (a : Int)) : fMn n B h m p ≤ 6 := by
  unfold fMn
  split
  · exact hm
  · rename_i hr
    have : m < 6 := by
      apply Decidable.byContradiction
      intro hn
      unfold fCl at ha
      rw [if_neg hr, if_neg (fun z => hn z.2)] at ha
      unfold wFl at ha
      omega
    omega
end FWO
