/-! rules of the fort -/
theorem pfC2 {ρ ρ0 : Nat → Int} {A : sA} {loc : zL} {h : zH} (hM : sMt pReg pgv ρ ρ0 (sAs A) loc [] h) (ho : wOk h) (hh : wGh h) (k : Nat) (i : sE) (e : A.2.1[k]? = some (2, 501, i)) {p : Nat} (hp : p ≤ 500) (hj : sv ρ i = (p : Int)) : ρ k = wCh (wN h) (wB h) p := by
  have hb := wCh_bd ho p
  have := pPl hM k 501 i e (by omega) 501 p (pReg_g (by omega) (by omega)) hj
  rw [← this, hh 501 (by omega) (by omega) _ (by omega)]
  unfold wArr
  rw [if_neg (by omega), if_pos rfl, if_pos (by omega)]
theorem yB_0 {p : Prop} (h : ¬ p) : yB p = 0 := by
  unfold yB
  exact if_neg h
theorem pgv_C {a : Nat} {h : zH} (ha : 1 ≤ a ∧ a < 7) : pgv a h = yB (aC a h) := by
  unfold pgv
  rw [if_neg (by omega), if_neg (by omega), if_neg (by omega), if_pos ha.2]
theorem pgv_M {a : Nat} {h : zH} (ha : 1 ≤ a ∧ a < 7) : pgv (6 + a) h = yB (aM a h) := by
  unfold pgv
  rw [if_neg (by omega), if_neg (by omega), if_neg (by omega), if_neg (by omega), if_pos (by omega), Nat.add_sub_cancel_left]
section FID
variable {n : Nat} {B : Nat → Int}
theorem fK_id (s : Nat) {p : Nat} (hp : p ≤ n) : fK n B s (wSk n B p) = fK n B s p := by
  unfold fK
  rw [wSk_id hp]
theorem fT_id {p : Nat} (hp : p ≤ n) : fT n B (wSk n B p) = fT n B p := by
  unfold fT
  rw [wSk_id hp]
theorem fI_id (s g : Nat) {p : Nat} (hp : p ≤ n) (hg : g < 16) : fI n B s g (wSk n B p) = fI n B s g p := by
  rw [fI_eq s g _ hg, fI_eq s g p hg, fK_id s hp, fT_id hp, wSk_id hp]
theorem fV_id (s j g : Nat) {p : Nat} {v : Int} (hp : p ≤ n) (hg : g < 16) : fV n B s j g (wSk n B p) v = fV n B s j g p v := by
  rw [fV_eq s j g _ v hg, fV_eq s j g p v hg, fK_id s hp, fT_id hp]
/-- a clause on the way: what it tells -/
theorem fFt_cs (h m p : Nat) (hp : p ≤ n) (hh : h < 2) (hm : m < 7) (hz : ∀ x, x < n → wCh n B x ≠ 0) (hon : fOn n B h m p) :
    (¬ (wCh n B (wSk n B p) = 115 ∧ h = 0) ∧ ¬ (wCh n B (wSk n B p) = 109 ∧ m < 6) ∧ (fW n B 0 0 0).1 = wFl (wSk n B p)) ∨
    (wCh n B (wSk n B p) = 115 ∧ h = 0 ∧ wSk n B p < n ∧ ((fI n B 0 0 (wSk n B p + 1) < 0 ∧ (fW n B 0 0 0).1 = fI n B 0 0 (wSk n B p + 1)) ∨ ∃ a : Nat, fI n B 0 0 (wSk n B p + 1) = (a : Int) ∧ wSk n B p + 1 ≤ a ∧ a ≤ n ∧ (∀ k, fV n B 0 k 0 (wSk n B p + 1) (fDf 0 k) = fRV n B k) ∧ ((wCh n B (wSk n B a) = 59 ∧ wSk n B a < n ∧ fOn n B 1 m (wSk n B a + 1)) ∨ (wCh n B (wSk n B a) = 0 ∧ wSk n B a = n ∧ (fW n B 0 0 0).1 = (wSk n B a : Int) ∧ (fW n B 0 0 0).2.1 = m) ∨ (wCh n B (wSk n B a) ≠ 59 ∧ wCh n B (wSk n B a) ≠ 0 ∧ wSk n B a < n ∧ (fW n B 0 0 0).1 = wFl (wSk n B a))))) ∨
    (wCh n B (wSk n B p) = 109 ∧ m < 6 ∧ ¬ (wCh n B (wSk n B p) = 115 ∧ h = 0) ∧ wSk n B p < n ∧ ((fI n B 1 0 (wSk n B p + 1) < 0 ∧ (fW n B 0 0 0).1 = fI n B 1 0 (wSk n B p + 1)) ∨ ∃ a : Nat, fI n B 1 0 (wSk n B p + 1) = (a : Int) ∧ wSk n B p + 1 ≤ a ∧ a ≤ n ∧ (∀ k, fV n B 1 k 0 (wSk n B p + 1) (fDf 1 k) = fMV n B m k) ∧ ((wCh n B (wSk n B a) = 59 ∧ wSk n B a < n ∧ fOn n B h (m + 1) (wSk n B a + 1)) ∨ (wCh n B (wSk n B a) = 0 ∧ wSk n B a = n ∧ (fW n B 0 0 0).1 = (wSk n B a : Int) ∧ (fW n B 0 0 0).2.1 = m + 1 ∧ (h = 0 → ∀ k, fRV n B k = fDf 0 k)) ∨ (wCh n B (wSk n B a) ≠ 59 ∧ wCh n B (wSk n B a) ≠ 0 ∧ wSk n B a < n ∧ (fW n B 0 0 0).1 = wFl (wSk n B a))))) := by
  obtain ⟨o1, o2, o3, o4⟩ := hon
  obtain ⟨s1, s2⟩ := wSk_le (B := B) hp
  have hw := fW_cs (B := B) h m p hp
  have endn : ∀ a : Nat, a ≤ n → wCh n B (wSk n B a) = 0 → wSk n B a = n := fun a ha h0 => by
    have := (wSk_le (B := B) ha).2
    apply Decidable.byContradiction
    intro hne
    exact hz _ (by omega) h0
  have endl : ∀ a : Nat, wCh n B (wSk n B a) ≠ 0 → wSk n B a < n := fun a h0 => wCh_lt h0
  by_cases hr : wCh n B (wSk n B p) = 115 ∧ h = 0
  · refine Or.inr (Or.inl ⟨hr.1, hr.2, wCh_lt (B := B) (by omega), ?_⟩)
    have ec : fCl n B h m p = fI n B 0 0 (wSk n B p + 1) := if_pos hr
    have eh : fHn n B h p = 1 := if_pos hr
    have em : fMn n B h m p = m := if_pos hr
    rw [ec, eh, em] at hw
    rcases hw with ⟨a1, a2, a3, a4⟩ | ⟨a, a1, a2, a3, a4⟩
    · exact Or.inl ⟨a1, by rw [← o1]; exact a2⟩
    · have hq := wCh_lt (n := n) (B := B) (p := wSk n B p) (by omega)
      have ga := (fI_gd (n := n) (B := B) 0 0 (wSk n B p + 1) (by omega)).2 (by omega)
      have rp : (fW n B h m p).2.2.2 = wSk n B p + 1 := by
        rcases a4 with ⟨b1, b2, b3, b4, b5, b6⟩ | ⟨b1, b2, b3, b4, b5⟩
        · rw [b6, if_pos hr]
        · rw [b5, if_pos hr]
      refine Or.inr ⟨a, a1, by omega, a3, fun k => ?_, ?_⟩
      · have := o4 hr.2
        unfold fRV
        rw [← this, rp, if_neg (by omega)]
      · rcases a4 with ⟨b1, b2, b3, b4, b5, b6⟩ | ⟨b1, b2, b3, b4, b5⟩
        · refine Or.inl ⟨b1, b2, by rw [← b3]; exact o1, by rw [← b4]; exact o2, fun i hi => ?_, fun z => by omega⟩
          have := o3 i hi
          rw [b5] at this
          simp only at this
          rw [if_neg (fun z => z.1 hr)] at this
          exact this
        · by_cases h0 : wCh n B (wSk n B a) = 0
          · rw [if_pos h0] at b2
            exact Or.inr (Or.inl ⟨h0, endn a a3 h0, by rw [← o1]; exact b2, by rw [← o2]; exact b3⟩)
          · rw [if_neg h0] at b2
            exact Or.inr (Or.inr ⟨b1, h0, endl a h0, by rw [← o1]; exact b2⟩)
  · by_cases hc : wCh n B (wSk n B p) = 109 ∧ m < 6
    · refine Or.inr (Or.inr ⟨hc.1, hc.2, hr, wCh_lt (B := B) (by omega), ?_⟩)
      have ec : fCl n B h m p = fI n B 1 0 (wSk n B p + 1) := by
        unfold fCl
        rw [if_neg hr, if_pos hc]
      have eh : fHn n B h p = h := if_neg hr
      have em : fMn n B h m p = m + 1 := if_neg hr
      rw [ec, eh, em] at hw
      rcases hw with ⟨a1, a2, a3, a4⟩ | ⟨a, a1, a2, a3, a4⟩
      · exact Or.inl ⟨a1, by rw [← o1]; exact a2⟩
      · have hq := wCh_lt (n := n) (B := B) (p := wSk n B p) (by omega)
        have ga := (fI_gd (n := n) (B := B) 1 0 (wSk n B p + 1) (by omega)).2 (by omega)
        have mp : (fW n B h m p).2.2.1 m = wSk n B p + 1 := by
          rcases a4 with ⟨b1, b2, b3, b4, b5, b6⟩ | ⟨b1, b2, b3, b4, b5⟩
          · rw [b5]
            exact if_pos ⟨hr, rfl⟩
          · rw [b4]
            exact if_pos ⟨hr, rfl⟩
        refine Or.inr ⟨a, a1, by omega, a3, fun k => ?_, ?_⟩
        · have := o3 m (Nat.le_refl m)
          unfold fMV
          rw [← this, mp]
        · rcases a4 with ⟨b1, b2, b3, b4, b5, b6⟩ | ⟨b1, b2, b3, b4, b5⟩
          · refine Or.inl ⟨b1, b2, by rw [← b3]; exact o1, by rw [← b4]; exact o2, fun i hi => ?_, fun z => ?_⟩
            · have := o3 i (by omega)
              rw [b5] at this
              simp only at this
              rw [if_neg (fun z => by omega)] at this
              exact this
            · have := o4 z
              rw [b6, if_neg hr] at this
              exact this
          · by_cases h0 : wCh n B (wSk n B a) = 0
            · rw [if_pos h0] at b2
              refine Or.inr (Or.inl ⟨h0, endn a a3 h0, by rw [← o1]; exact b2, by rw [← o2]; exact b3, fun z k => ?_⟩)
              have := o4 z
              rw [b5, if_neg hr] at this
              unfold fRV
              rw [← this, if_pos rfl]
            · rw [if_neg h0] at b2
              exact Or.inr (Or.inr ⟨b1, h0, endl a h0, by rw [← o1]; exact b2⟩)
    · refine Or.inl ⟨hr, hc, ?_⟩
      have ec : fCl n B h m p = wFl (wSk n B p) := by
        unfold fCl
        rw [if_neg hr, if_neg hc]
      rw [ec] at hw
      rcases hw with ⟨a1, a2, a3, a4⟩ | ⟨a, a1, a2, a3, a4⟩
      · rw [← o1]
        exact a2
      · unfold wFl at a1
        omega
end FID
noncomputable def rIT0c_0 : sX := (none, [], [], [(0, [(3, 1), (15, (-1))]), (0, [(2, (-1)), (15, 1)]), ((-98), [(16, 1)]), (0, [(14, 1), (15, (-1))]), (0, [(14, (-1)), (15, 1)]), (0, [(8, (-1)), (11, 1)]), (0, [(8, 1), (11, (-1))]), (0, [(9, (-1)), (12, 1)]), (0, [(9, 1), (12, (-1))]), (0, [(10, (-1)), (13, 1)]), (0, [(10, 1), (13, (-1))])], [])
noncomputable def rIT0c_1 : sX := (none, [], [], [(0, [(3, 1), (15, (-1))]), (0, [(2, (-1)), (15, 1)]), (100, [(16, (-1))]), ((-103), [(16, 1)]), (0, [(14, 1), (15, (-1))]), (0, [(14, (-1)), (15, 1)]), (0, [(8, (-1)), (11, 1)]), (0, [(8, 1), (11, (-1))]), (0, [(9, (-1)), (12, 1)]), (0, [(9, 1), (12, (-1))]), (0, [(10, (-1)), (13, 1)]), (0, [(10, 1), (13, (-1))])], [])
noncomputable def rIT0c_2 : sX := (none, [], [], [(0, [(3, 1), (15, (-1))]), (0, [(2, (-1)), (15, 1)]), (105, [(16, (-1))]), ((-109), [(16, 1)]), (0, [(14, 1), (15, (-1))]), (0, [(14, (-1)), (15, 1)]), (0, [(8, (-1)), (11, 1)]), (0, [(8, 1), (11, (-1))]), (0, [(9, (-1)), (12, 1)]), (0, [(9, 1), (12, (-1))]), (0, [(10, (-1)), (13, 1)]), (0, [(10, 1), (13, (-1))])], [])
noncomputable def rIT0c_3 : sX := (none, [], [], [(0, [(3, 1), (15, (-1))]), (0, [(2, (-1)), (15, 1)]), (111, [(16, (-1))]), (0, [(14, 1), (15, (-1))]), (0, [(14, (-1)), (15, 1)]), (0, [(8, (-1)), (11, 1)]), (0, [(8, 1), (11, (-1))]), (0, [(9, (-1)), (12, 1)]), (0, [(9, 1), (12, (-1))]), (0, [(10, (-1)), (13, 1)]), (0, [(10, 1), (13, (-1))])], [])
noncomputable def rIT0c_4 : sX := (none, [], [], [(0, [(3, 1), (15, (-1))]), (0, [(2, (-1)), (15, 1)]), (1, [(2, (-1)), (15, 1)]), (1, [(16, (-1))]), ((-104), [(16, 1)]), (104, [(16, (-1))]), ((-1), [(4, 1)]), (1, [(4, (-1))]), (1, [(14, 1), (15, 1)]), ((-1), [(14, (-1)), (15, (-1))])], [])
noncomputable def rIT0c_5 : sX := (none, [(500, (1, [(15, 1)]), (0, [(17, 1)])), (542, (0, [(17, 1)]), (0, [(18, 1)]))], [(0, 240), ((-241), (-1))], [(0, [(3, 1), (15, (-1))]), (0, [(2, (-1)), (15, 1)]), (1, [(2, (-1)), (15, 1)]), (1, [(16, (-1))]), ((-104), [(16, 1)]), (104, [(16, (-1))]), (0, [(4, 1)]), (0, [(4, (-1))]), (1, [(15, 1), (17, (-1))]), (0, [(2, (-1)), (17, 1)]), (0, [(14, 1), (18, (-1))]), (0, [(14, (-1)), (18, 1)]), (1, [(17, 1), (18, 1)]), ((-1), [(2, (-1)), (18, (-1))])], [])
noncomputable def rIT0c_6 : sX := (none, [(500, (1, [(15, 1)]), (0, [(17, 1)])), (542, (0, [(17, 1)]), (0, [(18, 1)])), (543, (0, [(17, 1)]), (0, [(19, 1)])), (530, (1, [(4, 1), (5, 2), (6, 4), (7, 8), (18, 16)]), (0, [(14, 1)])), (560, (100, [(4, 100), (5, 200), (6, 400), (7, 800), (18, 1600), (19, 1)]), (0, [(11, 1)])), (561, (100, [(4, 100), (5, 200), (6, 400), (7, 800), (9, 1), (18, 1600)]), (0, [(12, 1)])), (562, (100, [(4, 100), (5, 200), (6, 400), (7, 800), (10, 1), (18, 1600)]), (0, [(13, 1)]))], [(0, 240), (0, 240), (0, 99)], [(0, [(3, 1), (15, (-1))]), (0, [(2, (-1)), (15, 1)]), (1, [(2, (-1)), (15, 1)]), (1, [(16, (-1))]), ((-104), [(16, 1)]), (104, [(16, (-1))]), (0, [(4, 1)]), (0, [(4, (-1))]), (1, [(15, 1), (17, (-1))]), (0, [(2, (-1)), (17, 1)]), (1, [(17, 1), (18, (-1))]), (0, [(2, (-1)), (18, 1)]), (4, [(19, (-1))]), ((-10), [(19, 1)])], [])
noncomputable def rIT0c_7 : sX := (none, [(500, (1, [(15, 1)]), (0, [(17, 1)])), (542, (0, [(17, 1)]), (0, [(18, 1)])), (543, (0, [(17, 1)]), (0, [(19, 1)]))], [(0, 240), (0, 240), (0, 99)], [(0, [(3, 1), (15, (-1))]), (0, [(2, (-1)), (15, 1)]), (1, [(2, (-1)), (15, 1)]), (1, [(16, (-1))]), ((-104), [(16, 1)]), (104, [(16, (-1))]), (0, [(4, 1)]), (0, [(4, (-1))]), (1, [(15, 1), (17, (-1))]), (0, [(2, (-1)), (17, 1)]), (1, [(17, 1), (18, (-1))]), (0, [(2, (-1)), (18, 1)]), ((-3), [(19, 1)]), (0, [(14, 1), (18, 1)]), (0, [(14, (-1)), (18, (-1))])], [])
noncomputable def rIT0c_8 : sX := (none, [(500, (1, [(15, 1)]), (0, [(17, 1)])), (542, (0, [(17, 1)]), (0, [(18, 1)])), (543, (0, [(17, 1)]), (0, [(19, 1)]))], [(0, 240), (0, 240), (0, 99)], [(0, [(3, 1), (15, (-1))]), (0, [(2, (-1)), (15, 1)]), (1, [(2, (-1)), (15, 1)]), (1, [(16, (-1))]), ((-104), [(16, 1)]), (104, [(16, (-1))]), (0, [(4, 1)]), (0, [(4, (-1))]), (1, [(15, 1), (17, (-1))]), (0, [(2, (-1)), (17, 1)]), (1, [(17, 1), (18, (-1))]), (0, [(2, (-1)), (18, 1)]), (11, [(19, (-1))]), (0, [(14, 1), (18, 1)]), (0, [(14, (-1)), (18, (-1))])], [])
noncomputable def rIT0c_9 : sX := (none, [], [], [(0, [(3, 1), (15, (-1))]), (0, [(2, (-1)), (15, 1)]), (1, [(2, (-1)), (15, 1)]), (1, [(16, (-1))]), ((-110), [(16, 1)]), (110, [(16, (-1))]), ((-1), [(5, 1)]), (1, [(5, (-1))]), (1, [(14, 1), (15, 1)]), ((-1), [(14, (-1)), (15, (-1))])], [])
noncomputable def rIT0c_10 : sX := (none, [(500, (1, [(15, 1)]), (0, [(17, 1)])), (542, (0, [(17, 1)]), (0, [(18, 1)]))], [(0, 240), ((-241), (-1))], [(0, [(3, 1), (15, (-1))]), (0, [(2, (-1)), (15, 1)]), (1, [(2, (-1)), (15, 1)]), (1, [(16, (-1))]), ((-110), [(16, 1)]), (110, [(16, (-1))]), (0, [(5, 1)]), (0, [(5, (-1))]), (1, [(15, 1), (17, (-1))]), (0, [(2, (-1)), (17, 1)]), (0, [(14, 1), (18, (-1))]), (0, [(14, (-1)), (18, 1)]), (1, [(17, 1), (18, 1)]), ((-1), [(2, (-1)), (18, (-1))])], [])
noncomputable def rIT0c_11 : sX := (none, [(500, (1, [(15, 1)]), (0, [(17, 1)])), (542, (0, [(17, 1)]), (0, [(18, 1)])), (543, (0, [(17, 1)]), (0, [(19, 1)])), (530, (2, [(4, 1), (5, 2), (6, 4), (7, 8), (18, 16)]), (0, [(14, 1)])), (560, (200, [(4, 100), (5, 200), (6, 400), (7, 800), (8, 1), (18, 1600)]), (0, [(11, 1)])), (561, (200, [(4, 100), (5, 200), (6, 400), (7, 800), (18, 1600), (19, 1)]), (0, [(12, 1)])), (562, (200, [(4, 100), (5, 200), (6, 400), (7, 800), (10, 1), (18, 1600)]), (0, [(13, 1)]))], [(0, 240), (0, 240), (0, 99)], [(0, [(3, 1), (15, (-1))]), (0, [(2, (-1)), (15, 1)]), (1, [(2, (-1)), (15, 1)]), (1, [(16, (-1))]), ((-110), [(16, 1)]), (110, [(16, (-1))]), (0, [(5, 1)]), (0, [(5, (-1))]), (1, [(15, 1), (17, (-1))]), (0, [(2, (-1)), (17, 1)]), (1, [(17, 1), (18, (-1))]), (0, [(2, (-1)), (18, 1)]), (1, [(19, (-1))]), ((-20), [(19, 1)])], [])
noncomputable def rIT0c_12 : sX := (none, [(500, (1, [(15, 1)]), (0, [(17, 1)])), (542, (0, [(17, 1)]), (0, [(18, 1)])), (543, (0, [(17, 1)]), (0, [(19, 1)]))], [(0, 240), (0, 240), (0, 99)], [(0, [(3, 1), (15, (-1))]), (0, [(2, (-1)), (15, 1)]), (1, [(2, (-1)), (15, 1)]), (1, [(16, (-1))]), ((-110), [(16, 1)]), (110, [(16, (-1))]), (0, [(5, 1)]), (0, [(5, (-1))]), (1, [(15, 1), (17, (-1))]), (0, [(2, (-1)), (17, 1)]), (1, [(17, 1), (18, (-1))]), (0, [(2, (-1)), (18, 1)]), (0, [(19, 1)]), (0, [(14, 1), (18, 1)]), (0, [(14, (-1)), (18, (-1))])], [])
noncomputable def rIT0c_13 : sX := (none, [(500, (1, [(15, 1)]), (0, [(17, 1)])), (542, (0, [(17, 1)]), (0, [(18, 1)])), (543, (0, [(17, 1)]), (0, [(19, 1)]))], [(0, 240), (0, 240), (0, 99)], [(0, [(3, 1), (15, (-1))]), (0, [(2, (-1)), (15, 1)]), (1, [(2, (-1)), (15, 1)]), (1, [(16, (-1))]), ((-110), [(16, 1)]), (110, [(16, (-1))]), (0, [(5, 1)]), (0, [(5, (-1))]), (1, [(15, 1), (17, (-1))]), (0, [(2, (-1)), (17, 1)]), (1, [(17, 1), (18, (-1))]), (0, [(2, (-1)), (18, 1)]), (21, [(19, (-1))]), (0, [(14, 1), (18, 1)]), (0, [(14, (-1)), (18, (-1))])], [])
noncomputable def rIT0c_14 : sX := (none, [], [], [(0, [(3, 1), (15, (-1))]), (0, [(2, (-1)), (15, 1)]), (1, [(2, (-1)), (15, 1)]), (1, [(16, (-1))]), ((-99), [(16, 1)]), (99, [(16, (-1))]), ((-1), [(6, 1)]), (1, [(6, (-1))]), (1, [(14, 1), (15, 1)]), ((-1), [(14, (-1)), (15, (-1))])], [])
noncomputable def rIT0c_15 : sX := (none, [(500, (1, [(15, 1)]), (0, [(17, 1)])), (542, (0, [(17, 1)]), (0, [(18, 1)]))], [(0, 240), ((-241), (-1))], [(0, [(3, 1), (15, (-1))]), (0, [(2, (-1)), (15, 1)]), (1, [(2, (-1)), (15, 1)]), (1, [(16, (-1))]), ((-99), [(16, 1)]), (99, [(16, (-1))]), (0, [(6, 1)]), (0, [(6, (-1))]), (1, [(15, 1), (17, (-1))]), (0, [(2, (-1)), (17, 1)]), (0, [(14, 1), (18, (-1))]), (0, [(14, (-1)), (18, 1)]), (1, [(17, 1), (18, 1)]), ((-1), [(2, (-1)), (18, (-1))])], [])
noncomputable def rIT0c_16 : sX := (none, [(500, (1, [(15, 1)]), (0, [(17, 1)])), (542, (0, [(17, 1)]), (0, [(18, 1)])), (543, (0, [(17, 1)]), (0, [(19, 1)])), (530, (4, [(4, 1), (5, 2), (6, 4), (7, 8), (18, 16)]), (0, [(14, 1)])), (560, (400, [(4, 100), (5, 200), (6, 400), (7, 800), (8, 1), (18, 1600)]), (0, [(11, 1)])), (561, (400, [(4, 100), (5, 200), (6, 400), (7, 800), (9, 1), (18, 1600)]), (0, [(12, 1)])), (562, (400, [(4, 100), (5, 200), (6, 400), (7, 800), (18, 1600), (19, 1)]), (0, [(13, 1)]))], [(0, 240), (0, 240), (0, 99)], [(0, [(3, 1), (15, (-1))]), (0, [(2, (-1)), (15, 1)]), (1, [(2, (-1)), (15, 1)]), (1, [(16, (-1))]), ((-99), [(16, 1)]), (99, [(16, (-1))]), (0, [(6, 1)]), (0, [(6, (-1))]), (1, [(15, 1), (17, (-1))]), (0, [(2, (-1)), (17, 1)]), (1, [(17, 1), (18, (-1))]), (0, [(2, (-1)), (18, 1)]), (0, [(19, (-1))]), ((-99), [(19, 1)])], [])
noncomputable def rIT0c : sQ := (0, ([], [(2, 1000, (0, [])), (2, 1020, (0, [])), (2, 41, (1, [])), (2, 41, (2, [])), (2, 45, (0, [])), (2, 45, (1, [])), (2, 45, (2, [])), (2, 45, (3, [])), (2, 42, (0, [])), (2, 42, (1, [])), (2, 42, (2, [])), (2, 560, (0, [(3, 1600), (4, 100), (5, 200), (6, 400), (7, 800), (8, 1)])), (2, 561, (0, [(3, 1600), (4, 100), (5, 200), (6, 400), (7, 800), (9, 1)])), (2, 562, (0, [(3, 1600), (4, 100), (5, 200), (6, 400), (7, 800), (10, 1)])), (2, 530, (0, [(3, 16), (4, 1), (5, 2), (6, 4), (7, 8)])), (2, 500, (0, [(3, 1)])), (2, 501, (0, [(15, 1)]))], [(1, 1), (1, 1), (0, 240), (0, 240), (0, 1), (0, 1), (0, 1), (0, 1), (0, 99), (0, 99), (0, 99), (0, 99), (0, 99), (0, 99), ((-241), 240), (0, 240), (0, 255)], [(0, [(2, (-1)), (3, 1)])], [(0, 0), (1, 1), (2, 2), (3, 3), (4, 4), (5, 5), (6, 6), (7, 7), (8, 8), (9, 9), (10, 10), (11, 11), (12, 12), (13, 13), (14, 14), (15, 15), (16, 16)], (0, [])), [rIT0c_0, rIT0c_1, rIT0c_2, rIT0c_3, rIT0c_4, rIT0c_5, rIT0c_6, rIT0c_7, rIT0c_8, rIT0c_9, rIT0c_10, rIT0c_11, rIT0c_12, rIT0c_13, rIT0c_14, rIT0c_15, rIT0c_16], [], 0)
set_option maxHeartbeats 8000000 in
theorem rIT0c_ok : pRul pReg pG pgv (rIT0c) := by
  intro loc h ρ ρ0 hG hM
  have hM : sMt pReg pgv ρ ρ0 (sAs (rIT0c).2.1) loc [] h := hM
  have q0 : ρ0 1 = ρ 0 := (hM.2.2.2.2.2 (1, sY 0) (List.mem_of_getElem? (i := 1) rfl)).trans (sY_v ρ 0)
  have q1 : ρ0 2 = ρ 1 := (hM.2.2.2.2.2 (2, sY 1) (List.mem_of_getElem? (i := 2) rfl)).trans (sY_v ρ 1)
  have q2 : ρ0 3 = ρ 2 := (hM.2.2.2.2.2 (3, sY 2) (List.mem_of_getElem? (i := 3) rfl)).trans (sY_v ρ 2)
  have q3 : ρ0 4 = ρ 3 := (hM.2.2.2.2.2 (4, sY 3) (List.mem_of_getElem? (i := 4) rfl)).trans (sY_v ρ 3)
  have q4 : ρ0 5 = ρ 4 := (hM.2.2.2.2.2 (5, sY 4) (List.mem_of_getElem? (i := 5) rfl)).trans (sY_v ρ 4)
  have q5 : ρ0 6 = ρ 5 := (hM.2.2.2.2.2 (6, sY 5) (List.mem_of_getElem? (i := 6) rfl)).trans (sY_v ρ 5)
  have q6 : ρ0 7 = ρ 6 := (hM.2.2.2.2.2 (7, sY 6) (List.mem_of_getElem? (i := 7) rfl)).trans (sY_v ρ 6)
  have q7 : ρ0 8 = ρ 7 := (hM.2.2.2.2.2 (8, sY 7) (List.mem_of_getElem? (i := 8) rfl)).trans (sY_v ρ 7)
  have q8 : ρ0 9 = ρ 8 := (hM.2.2.2.2.2 (9, sY 8) (List.mem_of_getElem? (i := 9) rfl)).trans (sY_v ρ 8)
  have q9 : ρ0 10 = ρ 9 := (hM.2.2.2.2.2 (10, sY 9) (List.mem_of_getElem? (i := 10) rfl)).trans (sY_v ρ 9)
  have q10 : ρ0 11 = ρ 10 := (hM.2.2.2.2.2 (11, sY 10) (List.mem_of_getElem? (i := 11) rfl)).trans (sY_v ρ 10)
  have q11 : ρ0 12 = ρ 11 := (hM.2.2.2.2.2 (12, sY 11) (List.mem_of_getElem? (i := 12) rfl)).trans (sY_v ρ 11)
  have q12 : ρ0 13 = ρ 12 := (hM.2.2.2.2.2 (13, sY 12) (List.mem_of_getElem? (i := 13) rfl)).trans (sY_v ρ 12)
  have q13 : ρ0 14 = ρ 13 := (hM.2.2.2.2.2 (14, sY 13) (List.mem_of_getElem? (i := 14) rfl)).trans (sY_v ρ 13)
  have q14 : ρ0 15 = ρ 14 := (hM.2.2.2.2.2 (15, sY 14) (List.mem_of_getElem? (i := 15) rfl)).trans (sY_v ρ 14)
  have q15 : ρ0 16 = ρ 15 := (hM.2.2.2.2.2 (16, sY 15) (List.mem_of_getElem? (i := 16) rfl)).trans (sY_v ρ 15)
  have q16 : ρ0 17 = ρ 16 := (hM.2.2.2.2.2 (17, sY 16) (List.mem_of_getElem? (i := 17) rfl)).trans (sY_v ρ 16)
  have hL : ∀ j, j < 17 → pL [ρ 0, ρ 1, ρ 2, ρ 3, ρ 4, ρ 5, ρ 6, ρ 7, ρ 8, ρ 9, ρ 10, ρ 11, ρ 12, ρ 13, ρ 14, ρ 15, ρ 16] j = ρ0 (j + 1) := by
    intro j hj
    match j, hj with
    | 0, _ => exact q0.symm
    | 1, _ => exact q1.symm
    | 2, _ => exact q2.symm
    | 3, _ => exact q3.symm
    | 4, _ => exact q4.symm
    | 5, _ => exact q5.symm
    | 6, _ => exact q6.symm
    | 7, _ => exact q7.symm
    | 8, _ => exact q8.symm
    | 9, _ => exact q9.symm
    | 10, _ => exact q10.symm
    | 11, _ => exact q11.symm
    | 12, _ => exact q12.symm
    | 13, _ => exact q13.symm
    | 14, _ => exact q14.symm
    | 15, _ => exact q15.symm
    | 16, _ => exact q16.symm
    | k + 17, hj => omega
  have b0 : (1 : Int) ≤ ρ 0 ∧ ρ 0 ≤ 1 := hM.2.2.2.1 0 (1, 1) rfl
  have b1 : (1 : Int) ≤ ρ 1 ∧ ρ 1 ≤ 1 := hM.2.2.2.1 1 (1, 1) rfl
  have b2 : (0 : Int) ≤ ρ 2 ∧ ρ 2 ≤ 240 := hM.2.2.2.1 2 (0, 240) rfl
  have b3 : (0 : Int) ≤ ρ 3 ∧ ρ 3 ≤ 240 := hM.2.2.2.1 3 (0, 240) rfl
  have b4 : (0 : Int) ≤ ρ 4 ∧ ρ 4 ≤ 1 := hM.2.2.2.1 4 (0, 1) rfl
  have b5 : (0 : Int) ≤ ρ 5 ∧ ρ 5 ≤ 1 := hM.2.2.2.1 5 (0, 1) rfl
  have b6 : (0 : Int) ≤ ρ 6 ∧ ρ 6 ≤ 1 := hM.2.2.2.1 6 (0, 1) rfl
  have b7 : (0 : Int) ≤ ρ 7 ∧ ρ 7 ≤ 1 := hM.2.2.2.1 7 (0, 1) rfl
  have b8 : (0 : Int) ≤ ρ 8 ∧ ρ 8 ≤ 99 := hM.2.2.2.1 8 (0, 99) rfl
  have b9 : (0 : Int) ≤ ρ 9 ∧ ρ 9 ≤ 99 := hM.2.2.2.1 9 (0, 99) rfl
  have b10 : (0 : Int) ≤ ρ 10 ∧ ρ 10 ≤ 99 := hM.2.2.2.1 10 (0, 99) rfl
  have b11 : (0 : Int) ≤ ρ 11 ∧ ρ 11 ≤ 99 := hM.2.2.2.1 11 (0, 99) rfl
  have b12 : (0 : Int) ≤ ρ 12 ∧ ρ 12 ≤ 99 := hM.2.2.2.1 12 (0, 99) rfl
  have b13 : (0 : Int) ≤ ρ 13 ∧ ρ 13 ≤ 99 := hM.2.2.2.1 13 (0, 99) rfl
  have b14 : ((-241) : Int) ≤ ρ 14 ∧ ρ 14 ≤ 240 := hM.2.2.2.1 14 ((-241), 240) rfl
  have b15 : (0 : Int) ≤ ρ 15 ∧ ρ 15 ≤ 240 := hM.2.2.2.1 15 (0, 240) rfl
  have b16 : (0 : Int) ≤ ρ 16 ∧ ρ 16 ≤ 255 := hM.2.2.2.1 16 (0, 255) rfl
  have c0 : (0 + ((-1) * ρ 2 + (1 * ρ 3 + 0)) : Int) ≤ 0 := hM.2.2.2.2.1 (0, [(2, (-1)), (3, 1)]) (List.mem_of_getElem? (i := 0) rfl)
  obtain ⟨ho, hs, hh⟩ := pTold0 hM 0 (0, []) rfl b0.1
  have hn := ho.1
  obtain ⟨-, -, hf⟩ := pTold20 hM 1 (0, []) rfl b1.1
  have en : ρ 2 = (wN h : Int) := (pPl hM 2 41 (1, []) rfl (by omega) 353 1 (by decide +kernel) rfl).symm.trans hs.1
  obtain ⟨p, ep⟩ : ∃ p : Nat, ρ 3 = (p : Int) := ⟨(ρ 3).toNat, by omega⟩
  have hp : p ≤ wN h := by omega
  obtain ⟨s1, s2⟩ := wSk_le (B := wB h) hp
  obtain ⟨g0, eg0⟩ : ∃ g0 : Nat, ρ 4 = (g0 : Int) := ⟨(ρ 4).toNat, by omega⟩
  obtain ⟨g1, eg1⟩ : ∃ g1 : Nat, ρ 5 = (g1 : Int) := ⟨(ρ 5).toNat, by omega⟩
  obtain ⟨g2, eg2⟩ : ∃ g2 : Nat, ρ 6 = (g2 : Int) := ⟨(ρ 6).toNat, by omega⟩
  obtain ⟨g3, eg3⟩ : ∃ g3 : Nat, ρ 7 = (g3 : Int) := ⟨(ρ 7).toNat, by omega⟩
  obtain ⟨g, hgd⟩ : ∃ g : Nat, g = g0 + 2 * g1 + 4 * g2 + 8 * g3 := ⟨_, rfl⟩
  have hg : g < 16 := by omega
  have hb0 : (fBt g 0 : Int) = ρ 4 := by
    show ((g % 2 : Nat) : Int) = _
    omega
  have hb1 : (fBt g 1 : Int) = ρ 5 := by
    show ((g / 2 % 2 : Nat) : Int) = _
    omega
  have hb2 : (fBt g 2 : Int) = ρ 6 := by
    show ((g / 4 % 2 : Nat) : Int) = _
    omega
  have hb3 : (fBt g 3 : Int) = ρ 7 := by
    show ((g / 8 % 2 : Nat) : Int) = _
    omega
  obtain ⟨v0, ev0⟩ : ∃ v0 : Nat, ρ 8 = (v0 : Int) := ⟨(ρ 8).toNat, by omega⟩
  obtain ⟨v1, ev1⟩ : ∃ v1 : Nat, ρ 9 = (v1 : Int) := ⟨(ρ 9).toNat, by omega⟩
  obtain ⟨v2, ev2⟩ : ∃ v2 : Nat, ρ 10 = (v2 : Int) := ⟨(ρ 10).toNat, by omega⟩
  have er : ρ 14 = (fI (wN h) (wB h) 0 (g) (p)) := (pfF hM hf 14 530 (0, [(3, 16), (4, 1), (5, 2), (6, 4), (7, 8)]) rfl (by decide) (by decide) (16 * p + g) (by omega) (by show (0 + (16 * ρ 3 + (1 * ρ 4 + (2 * ρ 5 + (4 * ρ 6 + (8 * ρ 7 + 0))))) : Int) = _; omega)).trans (fA_IT0 hg hp hn)
  have ef0 : ρ 11 = (fV (wN h) (wB h) 0 0 (g) (p) (v0 : Int)) := (pfF hM hf 11 560 (0, [(3, 1600), (4, 100), (5, 200), (6, 400), (7, 800), (8, 1)]) rfl (by decide) (by decide) (1600 * p + 100 * g + v0) (by omega) (by show (0 + (1600 * ρ 3 + (100 * ρ 4 + (200 * ρ 5 + (400 * ρ 6 + (800 * ρ 7 + (1 * ρ 8 + 0)))))) : Int) = _; omega)).trans (fA_I (s := 0) (j := 0) (r := 560) (Or.inl ⟨rfl, rfl, by decide⟩) hg hp (by omega))
  have ef1 : ρ 12 = (fV (wN h) (wB h) 0 1 (g) (p) (v1 : Int)) := (pfF hM hf 12 561 (0, [(3, 1600), (4, 100), (5, 200), (6, 400), (7, 800), (9, 1)]) rfl (by decide) (by decide) (1600 * p + 100 * g + v1) (by omega) (by show (0 + (1600 * ρ 3 + (100 * ρ 4 + (200 * ρ 5 + (400 * ρ 6 + (800 * ρ 7 + (1 * ρ 9 + 0)))))) : Int) = _; omega)).trans (fA_I (s := 0) (j := 1) (r := 561) (Or.inl ⟨rfl, rfl, by decide⟩) hg hp (by omega))
  have ef2 : ρ 13 = (fV (wN h) (wB h) 0 2 (g) (p) (v2 : Int)) := (pfF hM hf 13 562 (0, [(3, 1600), (4, 100), (5, 200), (6, 400), (7, 800), (10, 1)]) rfl (by decide) (by decide) (1600 * p + 100 * g + v2) (by omega) (by show (0 + (1600 * ρ 3 + (100 * ρ 4 + (200 * ρ 5 + (400 * ρ 6 + (800 * ρ 7 + (1 * ρ 10 + 0)))))) : Int) = _; omega)).trans (fA_I (s := 0) (j := 2) (r := 562) (Or.inl ⟨rfl, rfl, by decide⟩) hg hp (by omega))
  have eq : ρ 15 = ((wSk (wN h) (wB h) (p)) : Int) := pfS hM ho hh 15 (0, [(3, 1)]) rfl (p := p) (by omega) (by show (0 + (1 * ρ 3 + 0) : Int) = _; omega)
  have ec : ρ 16 = (wCh (wN h) (wB h) ((wSk (wN h) (wB h) (p)))) := pfC hM ho hh 16 (0, [(15, 1)]) rfl (p := (wSk (wN h) (wB h) (p))) (by omega) (by show (0 + (1 * ρ 15 + 0) : Int) = _; omega)
  have cbc := wCh_bd ho ((wSk (wN h) (wB h) (p)))
  have clc : (wCh (wN h) (wB h) ((wSk (wN h) (wB h) (p)))) ≠ 0 → (wSk (wN h) (wB h) (p)) < wN h := wCh_lt
  rcases fI_cs (n := wN h) (B := wB h) 0 g p hp hg with ⟨k9, i9, v9⟩ | ⟨k4, hq, hc⟩
  · rcases fIt_0 (c := (wCh (wN h) (wB h) ((wSk (wN h) (wB h) (p))))) (k := 9) k9 with ⟨z, -⟩ | ⟨z, -⟩ | ⟨z, -⟩ | ⟨-, z⟩
    · exact absurd z (by decide)
    · exact absurd z (by decide)
    · exact absurd z (by decide)
    · rw [i9] at er
      rw [v9] at ef0
      rw [v9] at ef1
      rw [v9] at ef2
      have hu : (wCh (wN h) (wB h) ((wSk (wN h) (wB h) (p)))) ≤ 98 ∨ (100 ≤ (wCh (wN h) (wB h) ((wSk (wN h) (wB h) (p)))) ∧ (wCh (wN h) (wB h) ((wSk (wN h) (wB h) (p)))) ≤ 103) ∨ (105 ≤ (wCh (wN h) (wB h) ((wSk (wN h) (wB h) (p)))) ∧ (wCh (wN h) (wB h) ((wSk (wN h) (wB h) (p)))) ≤ 109) ∨ 111 ≤ (wCh (wN h) (wB h) ((wSk (wN h) (wB h) (p)))) := by omega
      rcases hu with hu | hu | hu | hu
      · refine ⟨rIT0c_0, List.mem_of_getElem? (i := 0) rfl, pEnd [ρ 0, ρ 1, ρ 2, ρ 3, ρ 4, ρ 5, ρ 6, ρ 7, ρ 8, ρ 9, ρ 10, ρ 11, ρ 12, ρ 13, ρ 14, ρ 15, ρ 16] rfl ?_ ?_ ?_ ?_⟩
        · exact hL
        · intro k b hk
          cases hk
        · exact pAll1 (show (0 + (1 * ρ 3 + ((-1) * ρ 15 + 0)) : Int) ≤ 0 by omega) (pAll1 (show (0 + ((-1) * ρ 2 + (1 * ρ 15 + 0)) : Int) ≤ 0 by omega) (pAll1 (show ((-98) + (1 * ρ 16 + 0) : Int) ≤ 0 by omega) (pAll1 (show (0 + (1 * ρ 14 + ((-1) * ρ 15 + 0)) : Int) ≤ 0 by omega) (pAll1 (show (0 + ((-1) * ρ 14 + (1 * ρ 15 + 0)) : Int) ≤ 0 by omega) (pAll1 (show (0 + ((-1) * ρ 8 + (1 * ρ 11 + 0)) : Int) ≤ 0 by omega) (pAll1 (show (0 + (1 * ρ 8 + ((-1) * ρ 11 + 0)) : Int) ≤ 0 by omega) (pAll1 (show (0 + ((-1) * ρ 9 + (1 * ρ 12 + 0)) : Int) ≤ 0 by omega) (pAll1 (show (0 + (1 * ρ 9 + ((-1) * ρ 12 + 0)) : Int) ≤ 0 by omega) (pAll1 (show (0 + ((-1) * ρ 10 + (1 * ρ 13 + 0)) : Int) ≤ 0 by omega) (pAll1 (show (0 + (1 * ρ 10 + ((-1) * ρ 13 + 0)) : Int) ≤ 0 by omega) (pAll0)))))))))))
        · exact pAll0
      · refine ⟨rIT0c_1, List.mem_of_getElem? (i := 1) rfl, pEnd [ρ 0, ρ 1, ρ 2, ρ 3, ρ 4, ρ 5, ρ 6, ρ 7, ρ 8, ρ 9, ρ 10, ρ 11, ρ 12, ρ 13, ρ 14, ρ 15, ρ 16] rfl ?_ ?_ ?_ ?_⟩
        · exact hL
        · intro k b hk
          cases hk
        · exact pAll1 (show (0 + (1 * ρ 3 + ((-1) * ρ 15 + 0)) : Int) ≤ 0 by omega) (pAll1 (show (0 + ((-1) * ρ 2 + (1 * ρ 15 + 0)) : Int) ≤ 0 by omega) (pAll1 (show (100 + ((-1) * ρ 16 + 0) : Int) ≤ 0 by omega) (pAll1 (show ((-103) + (1 * ρ 16 + 0) : Int) ≤ 0 by omega) (pAll1 (show (0 + (1 * ρ 14 + ((-1) * ρ 15 + 0)) : Int) ≤ 0 by omega) (pAll1 (show (0 + ((-1) * ρ 14 + (1 * ρ 15 + 0)) : Int) ≤ 0 by omega) (pAll1 (show (0 + ((-1) * ρ 8 + (1 * ρ 11 + 0)) : Int) ≤ 0 by omega) (pAll1 (show (0 + (1 * ρ 8 + ((-1) * ρ 11 + 0)) : Int) ≤ 0 by omega) (pAll1 (show (0 + ((-1) * ρ 9 + (1 * ρ 12 + 0)) : Int) ≤ 0 by omega) (pAll1 (show (0 + (1 * ρ 9 + ((-1) * ρ 12 + 0)) : Int) ≤ 0 by omega) (pAll1 (show (0 + ((-1) * ρ 10 + (1 * ρ 13 + 0)) : Int) ≤ 0 by omega) (pAll1 (show (0 + (1 * ρ 10 + ((-1) * ρ 13 + 0)) : Int) ≤ 0 by omega) (pAll0))))))))))))
        · exact pAll0
      · refine ⟨rIT0c_2, List.mem_of_getElem? (i := 2) rfl, pEnd [ρ 0, ρ 1, ρ 2, ρ 3, ρ 4, ρ 5, ρ 6, ρ 7, ρ 8, ρ 9, ρ 10, ρ 11, ρ 12, ρ 13, ρ 14, ρ 15, ρ 16] rfl ?_ ?_ ?_ ?_⟩
        · exact hL
        · intro k b hk
          cases hk
        · exact pAll1 (show (0 + (1 * ρ 3 + ((-1) * ρ 15 + 0)) : Int) ≤ 0 by omega) (pAll1 (show (0 + ((-1) * ρ 2 + (1 * ρ 15 + 0)) : Int) ≤ 0 by omega) (pAll1 (show (105 + ((-1) * ρ 16 + 0) : Int) ≤ 0 by omega) (pAll1 (show ((-109) + (1 * ρ 16 + 0) : Int) ≤ 0 by omega) (pAll1 (show (0 + (1 * ρ 14 + ((-1) * ρ 15 + 0)) : Int) ≤ 0 by omega) (pAll1 (show (0 + ((-1) * ρ 14 + (1 * ρ 15 + 0)) : Int) ≤ 0 by omega) (pAll1 (show (0 + ((-1) * ρ 8 + (1 * ρ 11 + 0)) : Int) ≤ 0 by omega) (pAll1 (show (0 + (1 * ρ 8 + ((-1) * ρ 11 + 0)) : Int) ≤ 0 by omega) (pAll1 (show (0 + ((-1) * ρ 9 + (1 * ρ 12 + 0)) : Int) ≤ 0 by omega) (pAll1 (show (0 + (1 * ρ 9 + ((-1) * ρ 12 + 0)) : Int) ≤ 0 by omega) (pAll1 (show (0 + ((-1) * ρ 10 + (1 * ρ 13 + 0)) : Int) ≤ 0 by omega) (pAll1 (show (0 + (1 * ρ 10 + ((-1) * ρ 13 + 0)) : Int) ≤ 0 by omega) (pAll0))))))))))))
        · exact pAll0
      · refine ⟨rIT0c_3, List.mem_of_getElem? (i := 3) rfl, pEnd [ρ 0, ρ 1, ρ 2, ρ 3, ρ 4, ρ 5, ρ 6, ρ 7, ρ 8, ρ 9, ρ 10, ρ 11, ρ 12, ρ 13, ρ 14, ρ 15, ρ 16] rfl ?_ ?_ ?_ ?_⟩
        · exact hL
        · intro k b hk
          cases hk
        · exact pAll1 (show (0 + (1 * ρ 3 + ((-1) * ρ 15 + 0)) : Int) ≤ 0 by omega) (pAll1 (show (0 + ((-1) * ρ 2 + (1 * ρ 15 + 0)) : Int) ≤ 0 by omega) (pAll1 (show (111 + ((-1) * ρ 16 + 0) : Int) ≤ 0 by omega) (pAll1 (show (0 + (1 * ρ 14 + ((-1) * ρ 15 + 0)) : Int) ≤ 0 by omega) (pAll1 (show (0 + ((-1) * ρ 14 + (1 * ρ 15 + 0)) : Int) ≤ 0 by omega) (pAll1 (show (0 + ((-1) * ρ 8 + (1 * ρ 11 + 0)) : Int) ≤ 0 by omega) (pAll1 (show (0 + (1 * ρ 8 + ((-1) * ρ 11 + 0)) : Int) ≤ 0 by omega) (pAll1 (show (0 + ((-1) * ρ 9 + (1 * ρ 12 + 0)) : Int) ≤ 0 by omega) (pAll1 (show (0 + (1 * ρ 9 + ((-1) * ρ 12 + 0)) : Int) ≤ 0 by omega) (pAll1 (show (0 + ((-1) * ρ 10 + (1 * ρ 13 + 0)) : Int) ≤ 0 by omega) (pAll1 (show (0 + (1 * ρ 10 + ((-1) * ρ 13 + 0)) : Int) ≤ 0 by omega) (pAll0)))))))))))
        · exact pAll0
  · obtain ⟨k, ek⟩ : ∃ k, fK (wN h) (wB h) 0 p = k := ⟨_, rfl⟩
    rw [ek] at k4 hc
    rcases fIt_0 (c := (wCh (wN h) (wB h) ((wSk (wN h) (wB h) (p))))) (k := k) ek with ⟨rfl, z⟩ | ⟨rfl, z⟩ | ⟨rfl, z⟩ | ⟨rfl, -⟩
    · rcases hc with ⟨c8, c9⟩ | ⟨c8, c9, d0, d⟩
      · rw [c9] at er
        unfold wFl at er
        rw [c8] at hb0
        refine ⟨rIT0c_4, List.mem_of_getElem? (i := 4) rfl, pEnd [ρ 0, ρ 1, ρ 2, ρ 3, ρ 4, ρ 5, ρ 6, ρ 7, ρ 8, ρ 9, ρ 10, ρ 11, ρ 12, ρ 13, ρ 14, ρ 15, ρ 16] rfl ?_ ?_ ?_ ?_⟩
        · exact hL
        · intro k b hk
          cases hk
        · exact pAll1 (show (0 + (1 * ρ 3 + ((-1) * ρ 15 + 0)) : Int) ≤ 0 by omega) (pAll1 (show (0 + ((-1) * ρ 2 + (1 * ρ 15 + 0)) : Int) ≤ 0 by omega) (pAll1 (show (1 + ((-1) * ρ 2 + (1 * ρ 15 + 0)) : Int) ≤ 0 by omega) (pAll1 (show (1 + ((-1) * ρ 16 + 0) : Int) ≤ 0 by omega) (pAll1 (show ((-104) + (1 * ρ 16 + 0) : Int) ≤ 0 by omega) (pAll1 (show (104 + ((-1) * ρ 16 + 0) : Int) ≤ 0 by omega) (pAll1 (show ((-1) + (1 * ρ 4 + 0) : Int) ≤ 0 by omega) (pAll1 (show (1 + ((-1) * ρ 4 + 0) : Int) ≤ 0 by omega) (pAll1 (show (1 + (1 * ρ 14 + (1 * ρ 15 + 0)) : Int) ≤ 0 by omega) (pAll1 (show ((-1) + ((-1) * ρ 14 + ((-1) * ρ 15 + 0)) : Int) ≤ 0 by omega) (pAll0))))))))))
        · exact pAll0
      · rw [c8] at hb0
        have c9 : (wSk (wN h) (wB h) (p)) + 1 ≤ (wSk (wN h) (wB h) ((wSk (wN h) (wB h) (p)) + 1)) := c9
        have d0 : (wSk (wN h) (wB h) ((wSk (wN h) (wB h) (p)) + 1)) ≤ wN h := d0
        rcases d with ⟨d1, d2, d3, d4⟩ | ⟨e, d1, d2, d3, d4, d5, d6⟩
        · have d1 : (fNr (wN h) (wB h) (wSk (wN h) (wB h) ((wSk (wN h) (wB h) (p)) + 1))) < 0 := d1
          have d2 : (fI (wN h) (wB h) 0 (g) (p)) = (fNr (wN h) (wB h) (wSk (wN h) (wB h) ((wSk (wN h) (wB h) (p)) + 1))) := d2
          have d3 : ((wSk (wN h) (wB h) ((wSk (wN h) (wB h) (p)) + 1)) : Int) ≤ -(fNr (wN h) (wB h) (wSk (wN h) (wB h) ((wSk (wN h) (wB h) (p)) + 1))) - 1 := d3
          have d4 : -(fNr (wN h) (wB h) (wSk (wN h) (wB h) ((wSk (wN h) (wB h) (p)) + 1))) - 1 ≤ (wN h : Int) := d4
          rw [d2] at er
          refine ⟨rIT0c_5, List.mem_of_getElem? (i := 5) rfl, pEnd [ρ 0, ρ 1, ρ 2, ρ 3, ρ 4, ρ 5, ρ 6, ρ 7, ρ 8, ρ 9, ρ 10, ρ 11, ρ 12, ρ 13, ρ 14, ρ 15, ρ 16, ((wSk (wN h) (wB h) ((wSk (wN h) (wB h) (p)) + 1)) : Int), (fNr (wN h) (wB h) (wSk (wN h) (wB h) ((wSk (wN h) (wB h) (p)) + 1)))] rfl ?_ ?_ ?_ ?_⟩
          · intro j hj
            match j, hj with
            | 0, _ => exact q0.symm
            | 1, _ => exact q1.symm
            | 2, _ => exact q2.symm
            | 3, _ => exact q3.symm
            | 4, _ => exact q4.symm
            | 5, _ => exact q5.symm
            | 6, _ => exact q6.symm
            | 7, _ => exact q7.symm
            | 8, _ => exact q8.symm
            | 9, _ => exact q9.symm
            | 10, _ => exact q10.symm
            | 11, _ => exact q11.symm
            | 12, _ => exact q12.symm
            | 13, _ => exact q13.symm
            | 14, _ => exact q14.symm
            | 15, _ => exact q15.symm
            | 16, _ => exact q16.symm
            | k + 17, hj => exact absurd hj (by show ¬ (k + 17 < 17); omega)
          · intro k b hk
            match k, hk with
            | 0, hk => cases hk; exact (show (0 : Int) ≤ ((wSk (wN h) (wB h) ((wSk (wN h) (wB h) (p)) + 1)) : Int) ∧ ((wSk (wN h) (wB h) ((wSk (wN h) (wB h) (p)) + 1)) : Int) ≤ (240 : Int) by omega)
            | 1, hk => cases hk; exact (show ((-241) : Int) ≤ (fNr (wN h) (wB h) (wSk (wN h) (wB h) ((wSk (wN h) (wB h) (p)) + 1))) ∧ (fNr (wN h) (wB h) (wSk (wN h) (wB h) ((wSk (wN h) (wB h) (p)) + 1))) ≤ ((-1) : Int) by omega)
            | k + 2, hk => cases hk
          · exact pAll1 (show (0 + (1 * ρ 3 + ((-1) * ρ 15 + 0)) : Int) ≤ 0 by omega) (pAll1 (show (0 + ((-1) * ρ 2 + (1 * ρ 15 + 0)) : Int) ≤ 0 by omega) (pAll1 (show (1 + ((-1) * ρ 2 + (1 * ρ 15 + 0)) : Int) ≤ 0 by omega) (pAll1 (show (1 + ((-1) * ρ 16 + 0) : Int) ≤ 0 by omega) (pAll1 (show ((-104) + (1 * ρ 16 + 0) : Int) ≤ 0 by omega) (pAll1 (show (104 + ((-1) * ρ 16 + 0) : Int) ≤ 0 by omega) (pAll1 (show (0 + (1 * ρ 4 + 0) : Int) ≤ 0 by omega) (pAll1 (show (0 + ((-1) * ρ 4 + 0) : Int) ≤ 0 by omega) (pAll1 (show (1 + (1 * ρ 15 + ((-1) * ((wSk (wN h) (wB h) ((wSk (wN h) (wB h) (p)) + 1)) : Int) + 0)) : Int) ≤ 0 by omega) (pAll1 (show (0 + ((-1) * ρ 2 + (1 * ((wSk (wN h) (wB h) ((wSk (wN h) (wB h) (p)) + 1)) : Int) + 0)) : Int) ≤ 0 by omega) (pAll1 (show (0 + (1 * ρ 14 + ((-1) * (fNr (wN h) (wB h) (wSk (wN h) (wB h) ((wSk (wN h) (wB h) (p)) + 1))) + 0)) : Int) ≤ 0 by omega) (pAll1 (show (0 + ((-1) * ρ 14 + (1 * (fNr (wN h) (wB h) (wSk (wN h) (wB h) ((wSk (wN h) (wB h) (p)) + 1))) + 0)) : Int) ≤ 0 by omega) (pAll1 (show (1 + (1 * ((wSk (wN h) (wB h) ((wSk (wN h) (wB h) (p)) + 1)) : Int) + (1 * (fNr (wN h) (wB h) (wSk (wN h) (wB h) ((wSk (wN h) (wB h) (p)) + 1))) + 0)) : Int) ≤ 0 by omega) (pAll1 (show ((-1) + ((-1) * ρ 2 + ((-1) * (fNr (wN h) (wB h) (wSk (wN h) (wB h) ((wSk (wN h) (wB h) (p)) + 1))) + 0)) : Int) ≤ 0 by omega) (pAll0))))))))))))))
          · exact pAll1 (pgS ho hh ((wSk (wN h) (wB h) (p)) + 1) (by omega) (show (1 + (1 * ρ 15 + 0) : Int) = _ by omega) (show (0 + (1 * ((wSk (wN h) (wB h) ((wSk (wN h) (wB h) (p)) + 1)) : Int) + 0) : Int) = _ by omega)) (pAll1 (pgF hf 542 (by decide) (by decide) ((wSk (wN h) (wB h) ((wSk (wN h) (wB h) (p)) + 1))) (by omega) (show (0 + (1 * ((wSk (wN h) (wB h) ((wSk (wN h) (wB h) (p)) + 1)) : Int) + 0) : Int) = _ by omega) (show (0 + (1 * (fNr (wN h) (wB h) (wSk (wN h) (wB h) ((wSk (wN h) (wB h) (p)) + 1))) + 0) : Int) = _ by rw [fA_NR d0 hn]; omega)) (pAll0))
        · have d1 : (fNr (wN h) (wB h) (wSk (wN h) (wB h) ((wSk (wN h) (wB h) (p)) + 1))) = (e : Int) := d1
          have d2 : (wSk (wN h) (wB h) ((wSk (wN h) (wB h) (p)) + 1)) < e := d2
          have d4 : 0 ≤ (fNv (wN h) (wB h) (wSk (wN h) (wB h) ((wSk (wN h) (wB h) (p)) + 1))) := d4
          have d5 : (fNv (wN h) (wB h) (wSk (wN h) (wB h) ((wSk (wN h) (wB h) (p)) + 1))) ≤ 99 := d5
          obtain ⟨w, ew⟩ : ∃ w : Nat, (fNv (wN h) (wB h) (wSk (wN h) (wB h) ((wSk (wN h) (wB h) (p)) + 1))) = (w : Int) := ⟨(fNv (wN h) (wB h) (wSk (wN h) (wB h) ((wSk (wN h) (wB h) (p)) + 1))).toNat, by omega⟩
          have l1 : fLo 0 0 = 4 := rfl
          have l2 : fHi 0 0 = 10 := rfl
          rw [l1, l2] at d6
          rcases d6 with ⟨d7, d8⟩ | ⟨d7, d8, d9, d10, d11⟩
          · rw [d8] at er
            have d7 : (fNv (wN h) (wB h) (wSk (wN h) (wB h) ((wSk (wN h) (wB h) (p)) + 1))) < 4 ∨ 10 < (fNv (wN h) (wB h) (wSk (wN h) (wB h) ((wSk (wN h) (wB h) (p)) + 1))) := d7
            rcases d7 with d7 | d7
            · refine ⟨rIT0c_7, List.mem_of_getElem? (i := 7) rfl, pEnd [ρ 0, ρ 1, ρ 2, ρ 3, ρ 4, ρ 5, ρ 6, ρ 7, ρ 8, ρ 9, ρ 10, ρ 11, ρ 12, ρ 13, ρ 14, ρ 15, ρ 16, ((wSk (wN h) (wB h) ((wSk (wN h) (wB h) (p)) + 1)) : Int), (e : Int), (w : Int)] rfl ?_ ?_ ?_ ?_⟩
              · intro j hj
                match j, hj with
                | 0, _ => exact q0.symm
                | 1, _ => exact q1.symm
                | 2, _ => exact q2.symm
                | 3, _ => exact q3.symm
                | 4, _ => exact q4.symm
                | 5, _ => exact q5.symm
                | 6, _ => exact q6.symm
                | 7, _ => exact q7.symm
                | 8, _ => exact q8.symm
                | 9, _ => exact q9.symm
                | 10, _ => exact q10.symm
                | 11, _ => exact q11.symm
                | 12, _ => exact q12.symm
                | 13, _ => exact q13.symm
                | 14, _ => exact q14.symm
                | 15, _ => exact q15.symm
                | 16, _ => exact q16.symm
                | k + 17, hj => exact absurd hj (by show ¬ (k + 17 < 17); omega)
              · intro k b hk
                match k, hk with
                | 0, hk => cases hk; exact (show (0 : Int) ≤ ((wSk (wN h) (wB h) ((wSk (wN h) (wB h) (p)) + 1)) : Int) ∧ ((wSk (wN h) (wB h) ((wSk (wN h) (wB h) (p)) + 1)) : Int) ≤ (240 : Int) by omega)
                | 1, hk => cases hk; exact (show (0 : Int) ≤ (e : Int) ∧ (e : Int) ≤ (240 : Int) by omega)
                | 2, hk => cases hk; exact (show (0 : Int) ≤ (w : Int) ∧ (w : Int) ≤ (99 : Int) by omega)
                | k + 3, hk => cases hk
              · exact pAll1 (show (0 + (1 * ρ 3 + ((-1) * ρ 15 + 0)) : Int) ≤ 0 by omega) (pAll1 (show (0 + ((-1) * ρ 2 + (1 * ρ 15 + 0)) : Int) ≤ 0 by omega) (pAll1 (show (1 + ((-1) * ρ 2 + (1 * ρ 15 + 0)) : Int) ≤ 0 by omega) (pAll1 (show (1 + ((-1) * ρ 16 + 0) : Int) ≤ 0 by omega) (pAll1 (show ((-104) + (1 * ρ 16 + 0) : Int) ≤ 0 by omega) (pAll1 (show (104 + ((-1) * ρ 16 + 0) : Int) ≤ 0 by omega) (pAll1 (show (0 + (1 * ρ 4 + 0) : Int) ≤ 0 by omega) (pAll1 (show (0 + ((-1) * ρ 4 + 0) : Int) ≤ 0 by omega) (pAll1 (show (1 + (1 * ρ 15 + ((-1) * ((wSk (wN h) (wB h) ((wSk (wN h) (wB h) (p)) + 1)) : Int) + 0)) : Int) ≤ 0 by omega) (pAll1 (show (0 + ((-1) * ρ 2 + (1 * ((wSk (wN h) (wB h) ((wSk (wN h) (wB h) (p)) + 1)) : Int) + 0)) : Int) ≤ 0 by omega) (pAll1 (show (1 + (1 * ((wSk (wN h) (wB h) ((wSk (wN h) (wB h) (p)) + 1)) : Int) + ((-1) * (e : Int) + 0)) : Int) ≤ 0 by omega) (pAll1 (show (0 + ((-1) * ρ 2 + (1 * (e : Int) + 0)) : Int) ≤ 0 by omega) (pAll1 (show ((-3) + (1 * (w : Int) + 0) : Int) ≤ 0 by omega) (pAll1 (show (0 + (1 * ρ 14 + (1 * (e : Int) + 0)) : Int) ≤ 0 by omega) (pAll1 (show (0 + ((-1) * ρ 14 + ((-1) * (e : Int) + 0)) : Int) ≤ 0 by omega) (pAll0)))))))))))))))
              · exact pAll1 (pgS ho hh ((wSk (wN h) (wB h) (p)) + 1) (by omega) (show (1 + (1 * ρ 15 + 0) : Int) = _ by omega) (show (0 + (1 * ((wSk (wN h) (wB h) ((wSk (wN h) (wB h) (p)) + 1)) : Int) + 0) : Int) = _ by omega)) (pAll1 (pgF hf 542 (by decide) (by decide) ((wSk (wN h) (wB h) ((wSk (wN h) (wB h) (p)) + 1))) (by omega) (show (0 + (1 * ((wSk (wN h) (wB h) ((wSk (wN h) (wB h) (p)) + 1)) : Int) + 0) : Int) = _ by omega) (show (0 + (1 * (e : Int) + 0) : Int) = _ by rw [fA_NR d0 hn]; omega)) (pAll1 (pgF hf 543 (by decide) (by decide) ((wSk (wN h) (wB h) ((wSk (wN h) (wB h) (p)) + 1))) (by omega) (show (0 + (1 * ((wSk (wN h) (wB h) ((wSk (wN h) (wB h) (p)) + 1)) : Int) + 0) : Int) = _ by omega) (show (0 + (1 * (w : Int) + 0) : Int) = _ by rw [fA_NV d4 d5]; omega)) (pAll0)))
            · refine ⟨rIT0c_8, List.mem_of_getElem? (i := 8) rfl, pEnd [ρ 0, ρ 1, ρ 2, ρ 3, ρ 4, ρ 5, ρ 6, ρ 7, ρ 8, ρ 9, ρ 10, ρ 11, ρ 12, ρ 13, ρ 14, ρ 15, ρ 16, ((wSk (wN h) (wB h) ((wSk (wN h) (wB h) (p)) + 1)) : Int), (e : Int), (w : Int)] rfl ?_ ?_ ?_ ?_⟩
              · intro j hj
                match j, hj with
                | 0, _ => exact q0.symm
                | 1, _ => exact q1.symm
                | 2, _ => exact q2.symm
                | 3, _ => exact q3.symm
                | 4, _ => exact q4.symm
                | 5, _ => exact q5.symm
                | 6, _ => exact q6.symm
                | 7, _ => exact q7.symm
                | 8, _ => exact q8.symm
                | 9, _ => exact q9.symm
                | 10, _ => exact q10.symm
                | 11, _ => exact q11.symm
                | 12, _ => exact q12.symm
                | 13, _ => exact q13.symm
                | 14, _ => exact q14.symm
                | 15, _ => exact q15.symm
                | 16, _ => exact q16.symm
                | k + 17, hj => exact absurd hj (by show ¬ (k + 17 < 17); omega)
              · intro k b hk
                match k, hk with
                | 0, hk => cases hk; exact (show (0 : Int) ≤ ((wSk (wN h) (wB h) ((wSk (wN h) (wB h) (p)) + 1)) : Int) ∧ ((wSk (wN h) (wB h) ((wSk (wN h) (wB h) (p)) + 1)) : Int) ≤ (240 : Int) by omega)
                | 1, hk => cases hk; exact (show (0 : Int) ≤ (e : Int) ∧ (e : Int) ≤ (240 : Int) by omega)
                | 2, hk => cases hk; exact (show (0 : Int) ≤ (w : Int) ∧ (w : Int) ≤ (99 : Int) by omega)
                | k + 3, hk => cases hk
              · exact pAll1 (show (0 + (1 * ρ 3 + ((-1) * ρ 15 + 0)) : Int) ≤ 0 by omega) (pAll1 (show (0 + ((-1) * ρ 2 + (1 * ρ 15 + 0)) : Int) ≤ 0 by omega) (pAll1 (show (1 + ((-1) * ρ 2 + (1 * ρ 15 + 0)) : Int) ≤ 0 by omega) (pAll1 (show (1 + ((-1) * ρ 16 + 0) : Int) ≤ 0 by omega) (pAll1 (show ((-104) + (1 * ρ 16 + 0) : Int) ≤ 0 by omega) (pAll1 (show (104 + ((-1) * ρ 16 + 0) : Int) ≤ 0 by omega) (pAll1 (show (0 + (1 * ρ 4 + 0) : Int) ≤ 0 by omega) (pAll1 (show (0 + ((-1) * ρ 4 + 0) : Int) ≤ 0 by omega) (pAll1 (show (1 + (1 * ρ 15 + ((-1) * ((wSk (wN h) (wB h) ((wSk (wN h) (wB h) (p)) + 1)) : Int) + 0)) : Int) ≤ 0 by omega) (pAll1 (show (0 + ((-1) * ρ 2 + (1 * ((wSk (wN h) (wB h) ((wSk (wN h) (wB h) (p)) + 1)) : Int) + 0)) : Int) ≤ 0 by omega) (pAll1 (show (1 + (1 * ((wSk (wN h) (wB h) ((wSk (wN h) (wB h) (p)) + 1)) : Int) + ((-1) * (e : Int) + 0)) : Int) ≤ 0 by omega) (pAll1 (show (0 + ((-1) * ρ 2 + (1 * (e : Int) + 0)) : Int) ≤ 0 by omega) (pAll1 (show (11 + ((-1) * (w : Int) + 0) : Int) ≤ 0 by omega) (pAll1 (show (0 + (1 * ρ 14 + (1 * (e : Int) + 0)) : Int) ≤ 0 by omega) (pAll1 (show (0 + ((-1) * ρ 14 + ((-1) * (e : Int) + 0)) : Int) ≤ 0 by omega) (pAll0)))))))))))))))
              · exact pAll1 (pgS ho hh ((wSk (wN h) (wB h) (p)) + 1) (by omega) (show (1 + (1 * ρ 15 + 0) : Int) = _ by omega) (show (0 + (1 * ((wSk (wN h) (wB h) ((wSk (wN h) (wB h) (p)) + 1)) : Int) + 0) : Int) = _ by omega)) (pAll1 (pgF hf 542 (by decide) (by decide) ((wSk (wN h) (wB h) ((wSk (wN h) (wB h) (p)) + 1))) (by omega) (show (0 + (1 * ((wSk (wN h) (wB h) ((wSk (wN h) (wB h) (p)) + 1)) : Int) + 0) : Int) = _ by omega) (show (0 + (1 * (e : Int) + 0) : Int) = _ by rw [fA_NR d0 hn]; omega)) (pAll1 (pgF hf 543 (by decide) (by decide) ((wSk (wN h) (wB h) ((wSk (wN h) (wB h) (p)) + 1))) (by omega) (show (0 + (1 * ((wSk (wN h) (wB h) ((wSk (wN h) (wB h) (p)) + 1)) : Int) + 0) : Int) = _ by omega) (show (0 + (1 * (w : Int) + 0) : Int) = _ by rw [fA_NV d4 d5]; omega)) (pAll0)))
          · have d7 : 4 ≤ (fNv (wN h) (wB h) (wSk (wN h) (wB h) ((wSk (wN h) (wB h) (p)) + 1))) := d7
            have d8 : (fNv (wN h) (wB h) (wSk (wN h) (wB h) ((wSk (wN h) (wB h) (p)) + 1))) ≤ 10 := d8
            have d9 : g + 1 < 16 := d9
            have d10 : (fI (wN h) (wB h) 0 (g) (p)) = (fI (wN h) (wB h) 0 (g + 1) (e)) := d10
            rw [d10] at er
            have x0 : (fV (wN h) (wB h) 0 0 (g) (p) (v0 : Int)) = (fV (wN h) (wB h) 0 0 (g + 1) (e) (w : Int)) := by
              have y := d11 0 (v0 : Int)
              rw [if_pos rfl] at y
              have y : (fV (wN h) (wB h) 0 0 (g) (p) (v0 : Int)) = (fV (wN h) (wB h) 0 0 (g + 1) (e) (fNv (wN h) (wB h) (wSk (wN h) (wB h) ((wSk (wN h) (wB h) (p)) + 1)))) := y
              rw [ew] at y
              exact y
            rw [x0] at ef0
            have x1 : (fV (wN h) (wB h) 0 1 (g) (p) (v1 : Int)) = (fV (wN h) (wB h) 0 1 (g + 1) (e) (v1 : Int)) := by
              have y := d11 1 (v1 : Int)
              rw [if_neg (by decide)] at y
              exact y
            rw [x1] at ef1
            have x2 : (fV (wN h) (wB h) 0 2 (g) (p) (v2 : Int)) = (fV (wN h) (wB h) 0 2 (g + 1) (e) (v2 : Int)) := by
              have y := d11 2 (v2 : Int)
              rw [if_neg (by decide)] at y
              exact y
            rw [x2] at ef2
            refine ⟨rIT0c_6, List.mem_of_getElem? (i := 6) rfl, pEnd [ρ 0, ρ 1, ρ 2, ρ 3, ρ 4, ρ 5, ρ 6, ρ 7, ρ 8, ρ 9, ρ 10, ρ 11, ρ 12, ρ 13, ρ 14, ρ 15, ρ 16, ((wSk (wN h) (wB h) ((wSk (wN h) (wB h) (p)) + 1)) : Int), (e : Int), (w : Int)] rfl ?_ ?_ ?_ ?_⟩
            · intro j hj
              match j, hj with
              | 0, _ => exact q0.symm
              | 1, _ => exact q1.symm
              | 2, _ => exact q2.symm
              | 3, _ => exact q3.symm
              | 4, _ => exact q4.symm
              | 5, _ => exact q5.symm
              | 6, _ => exact q6.symm
              | 7, _ => exact q7.symm
              | 8, _ => exact q8.symm
              | 9, _ => exact q9.symm
              | 10, _ => exact q10.symm
              | 11, _ => exact q11.symm
              | 12, _ => exact q12.symm
              | 13, _ => exact q13.symm
              | 14, _ => exact q14.symm
              | 15, _ => exact q15.symm
              | 16, _ => exact q16.symm
              | k + 17, hj => exact absurd hj (by show ¬ (k + 17 < 17); omega)
            · intro k b hk
              match k, hk with
              | 0, hk => cases hk; exact (show (0 : Int) ≤ ((wSk (wN h) (wB h) ((wSk (wN h) (wB h) (p)) + 1)) : Int) ∧ ((wSk (wN h) (wB h) ((wSk (wN h) (wB h) (p)) + 1)) : Int) ≤ (240 : Int) by omega)
              | 1, hk => cases hk; exact (show (0 : Int) ≤ (e : Int) ∧ (e : Int) ≤ (240 : Int) by omega)
              | 2, hk => cases hk; exact (show (0 : Int) ≤ (w : Int) ∧ (w : Int) ≤ (99 : Int) by omega)
              | k + 3, hk => cases hk
            · exact pAll1 (show (0 + (1 * ρ 3 + ((-1) * ρ 15 + 0)) : Int) ≤ 0 by omega) (pAll1 (show (0 + ((-1) * ρ 2 + (1 * ρ 15 + 0)) : Int) ≤ 0 by omega) (pAll1 (show (1 + ((-1) * ρ 2 + (1 * ρ 15 + 0)) : Int) ≤ 0 by omega) (pAll1 (show (1 + ((-1) * ρ 16 + 0) : Int) ≤ 0 by omega) (pAll1 (show ((-104) + (1 * ρ 16 + 0) : Int) ≤ 0 by omega) (pAll1 (show (104 + ((-1) * ρ 16 + 0) : Int) ≤ 0 by omega) (pAll1 (show (0 + (1 * ρ 4 + 0) : Int) ≤ 0 by omega) (pAll1 (show (0 + ((-1) * ρ 4 + 0) : Int) ≤ 0 by omega) (pAll1 (show (1 + (1 * ρ 15 + ((-1) * ((wSk (wN h) (wB h) ((wSk (wN h) (wB h) (p)) + 1)) : Int) + 0)) : Int) ≤ 0 by omega) (pAll1 (show (0 + ((-1) * ρ 2 + (1 * ((wSk (wN h) (wB h) ((wSk (wN h) (wB h) (p)) + 1)) : Int) + 0)) : Int) ≤ 0 by omega) (pAll1 (show (1 + (1 * ((wSk (wN h) (wB h) ((wSk (wN h) (wB h) (p)) + 1)) : Int) + ((-1) * (e : Int) + 0)) : Int) ≤ 0 by omega) (pAll1 (show (0 + ((-1) * ρ 2 + (1 * (e : Int) + 0)) : Int) ≤ 0 by omega) (pAll1 (show (4 + ((-1) * (w : Int) + 0) : Int) ≤ 0 by omega) (pAll1 (show ((-10) + (1 * (w : Int) + 0) : Int) ≤ 0 by omega) (pAll0))))))))))))))
            · exact pAll1 (pgS ho hh ((wSk (wN h) (wB h) (p)) + 1) (by omega) (show (1 + (1 * ρ 15 + 0) : Int) = _ by omega) (show (0 + (1 * ((wSk (wN h) (wB h) ((wSk (wN h) (wB h) (p)) + 1)) : Int) + 0) : Int) = _ by omega)) (pAll1 (pgF hf 542 (by decide) (by decide) ((wSk (wN h) (wB h) ((wSk (wN h) (wB h) (p)) + 1))) (by omega) (show (0 + (1 * ((wSk (wN h) (wB h) ((wSk (wN h) (wB h) (p)) + 1)) : Int) + 0) : Int) = _ by omega) (show (0 + (1 * (e : Int) + 0) : Int) = _ by rw [fA_NR d0 hn]; omega)) (pAll1 (pgF hf 543 (by decide) (by decide) ((wSk (wN h) (wB h) ((wSk (wN h) (wB h) (p)) + 1))) (by omega) (show (0 + (1 * ((wSk (wN h) (wB h) ((wSk (wN h) (wB h) (p)) + 1)) : Int) + 0) : Int) = _ by omega) (show (0 + (1 * (w : Int) + 0) : Int) = _ by rw [fA_NV d4 d5]; omega)) (pAll1 (pgF hf 530 (by decide) (by decide) (16 * e + (g + 1)) (by omega) (show (1 + (1 * ρ 4 + (2 * ρ 5 + (4 * ρ 6 + (8 * ρ 7 + (16 * (e : Int) + 0))))) : Int) = _ by omega) (show (0 + (1 * ρ 14 + 0) : Int) = _ by rw [fA_IT0 (g := g + 1) d9 d3 hn]; omega)) (pAll1 (pgF hf 560 (by decide) (by decide) (1600 * e + 100 * (g + 1) + w) (by omega) (show (100 + (100 * ρ 4 + (200 * ρ 5 + (400 * ρ 6 + (800 * ρ 7 + (1600 * (e : Int) + (1 * (w : Int) + 0)))))) : Int) = _ by omega) (show (0 + (1 * ρ 11 + 0) : Int) = _ by rw [fA_I (s := 0) (j := 0) (r := 560) (g := g + 1) (v := w) (Or.inl ⟨rfl, rfl, by decide⟩) d9 d3 (by omega)]; omega)) (pAll1 (pgF hf 561 (by decide) (by decide) (1600 * e + 100 * (g + 1) + v1) (by omega) (show (100 + (100 * ρ 4 + (200 * ρ 5 + (400 * ρ 6 + (800 * ρ 7 + (1 * ρ 9 + (1600 * (e : Int) + 0)))))) : Int) = _ by omega) (show (0 + (1 * ρ 12 + 0) : Int) = _ by rw [fA_I (s := 0) (j := 1) (r := 561) (g := g + 1) (v := v1) (Or.inl ⟨rfl, rfl, by decide⟩) d9 d3 (by omega)]; omega)) (pAll1 (pgF hf 562 (by decide) (by decide) (1600 * e + 100 * (g + 1) + v2) (by omega) (show (100 + (100 * ρ 4 + (200 * ρ 5 + (400 * ρ 6 + (800 * ρ 7 + (1 * ρ 10 + (1600 * (e : Int) + 0)))))) : Int) = _ by omega) (show (0 + (1 * ρ 13 + 0) : Int) = _ by rw [fA_I (s := 0) (j := 2) (r := 562) (g := g + 1) (v := v2) (Or.inl ⟨rfl, rfl, by decide⟩) d9 d3 (by omega)]; omega)) (pAll0)))))))
    · rcases hc with ⟨c8, c9⟩ | ⟨c8, c9, d0, d⟩
      · rw [c9] at er
        unfold wFl at er
        rw [c8] at hb1
        refine ⟨rIT0c_9, List.mem_of_getElem? (i := 9) rfl, pEnd [ρ 0, ρ 1, ρ 2, ρ 3, ρ 4, ρ 5, ρ 6, ρ 7, ρ 8, ρ 9, ρ 10, ρ 11, ρ 12, ρ 13, ρ 14, ρ 15, ρ 16] rfl ?_ ?_ ?_ ?_⟩
        · exact hL
        · intro k b hk
          cases hk
        · exact pAll1 (show (0 + (1 * ρ 3 + ((-1) * ρ 15 + 0)) : Int) ≤ 0 by omega) (pAll1 (show (0 + ((-1) * ρ 2 + (1 * ρ 15 + 0)) : Int) ≤ 0 by omega) (pAll1 (show (1 + ((-1) * ρ 2 + (1 * ρ 15 + 0)) : Int) ≤ 0 by omega) (pAll1 (show (1 + ((-1) * ρ 16 + 0) : Int) ≤ 0 by omega) (pAll1 (show ((-110) + (1 * ρ 16 + 0) : Int) ≤ 0 by omega) (pAll1 (show (110 + ((-1) * ρ 16 + 0) : Int) ≤ 0 by omega) (pAll1 (show ((-1) + (1 * ρ 5 + 0) : Int) ≤ 0 by omega) (pAll1 (show (1 + ((-1) * ρ 5 + 0) : Int) ≤ 0 by omega) (pAll1 (show (1 + (1 * ρ 14 + (1 * ρ 15 + 0)) : Int) ≤ 0 by omega) (pAll1 (show ((-1) + ((-1) * ρ 14 + ((-1) * ρ 15 + 0)) : Int) ≤ 0 by omega) (pAll0))))))))))
        · exact pAll0
      · rw [c8] at hb1
        have c9 : (wSk (wN h) (wB h) (p)) + 1 ≤ (wSk (wN h) (wB h) ((wSk (wN h) (wB h) (p)) + 1)) := c9
        have d0 : (wSk (wN h) (wB h) ((wSk (wN h) (wB h) (p)) + 1)) ≤ wN h := d0
        rcases d with ⟨d1, d2, d3, d4⟩ | ⟨e, d1, d2, d3, d4, d5, d6⟩
        · have d1 : (fNr (wN h) (wB h) (wSk (wN h) (wB h) ((wSk (wN h) (wB h) (p)) + 1))) < 0 := d1
          have d2 : (fI (wN h) (wB h) 0 (g) (p)) = (fNr (wN h) (wB h) (wSk (wN h) (wB h) ((wSk (wN h) (wB h) (p)) + 1))) := d2
          have d3 : ((wSk (wN h) (wB h) ((wSk (wN h) (wB h) (p)) + 1)) : Int) ≤ -(fNr (wN h) (wB h) (wSk (wN h) (wB h) ((wSk (wN h) (wB h) (p)) + 1))) - 1 := d3
          have d4 : -(fNr (wN h) (wB h) (wSk (wN h) (wB h) ((wSk (wN h) (wB h) (p)) + 1))) - 1 ≤ (wN h : Int) := d4
          rw [d2] at er
          refine ⟨rIT0c_10, List.mem_of_getElem? (i := 10) rfl, pEnd [ρ 0, ρ 1, ρ 2, ρ 3, ρ 4, ρ 5, ρ 6, ρ 7, ρ 8, ρ 9, ρ 10, ρ 11, ρ 12, ρ 13, ρ 14, ρ 15, ρ 16, ((wSk (wN h) (wB h) ((wSk (wN h) (wB h) (p)) + 1)) : Int), (fNr (wN h) (wB h) (wSk (wN h) (wB h) ((wSk (wN h) (wB h) (p)) + 1)))] rfl ?_ ?_ ?_ ?_⟩
          · intro j hj
            match j, hj with
            | 0, _ => exact q0.symm
            | 1, _ => exact q1.symm
            | 2, _ => exact q2.symm
            | 3, _ => exact q3.symm
            | 4, _ => exact q4.symm
            | 5, _ => exact q5.symm
            | 6, _ => exact q6.symm
            | 7, _ => exact q7.symm
            | 8, _ => exact q8.symm
            | 9, _ => exact q9.symm
            | 10, _ => exact q10.symm
            | 11, _ => exact q11.symm
            | 12, _ => exact q12.symm
            | 13, _ => exact q13.symm
            | 14, _ => exact q14.symm
            | 15, _ => exact q15.symm
            | 16, _ => exact q16.symm
            | k + 17, hj => exact absurd hj (by show ¬ (k + 17 < 17); omega)
          · intro k b hk
            match k, hk with
            | 0, hk => cases hk; exact (show (0 : Int) ≤ ((wSk (wN h) (wB h) ((wSk (wN h) (wB h) (p)) + 1)) : Int) ∧ ((wSk (wN h) (wB h) ((wSk (wN h) (wB h) (p)) + 1)) : Int) ≤ (240 : Int) by omega)
            | 1, hk => cases hk; exact (show ((-241) : Int) ≤ (fNr (wN h) (wB h) (wSk (wN h) (wB h) ((wSk (wN h) (wB h) (p)) + 1))) ∧ (fNr (wN h) (wB h) (wSk (wN h) (wB h) ((wSk (wN h) (wB h) (p)) + 1))) ≤ ((-1) : Int) by omega)
            | k + 2, hk => cases hk
          · exact pAll1 (show (0 + (1 * ρ 3 + ((-1) * ρ 15 + 0)) : Int) ≤ 0 by omega) (pAll1 (show (0 + ((-1) * ρ 2 + (1 * ρ 15 + 0)) : Int) ≤ 0 by omega) (pAll1 (show (1 + ((-1) * ρ 2 + (1 * ρ 15 + 0)) : Int) ≤ 0 by omega) (pAll1 (show (1 + ((-1) * ρ 16 + 0) : Int) ≤ 0 by omega) (pAll1 (show ((-110) + (1 * ρ 16 + 0) : Int) ≤ 0 by omega) (pAll1 (show (110 + ((-1) * ρ 16 + 0) : Int) ≤ 0 by omega) (pAll1 (show (0 + (1 * ρ 5 + 0) : Int) ≤ 0 by omega) (pAll1 (show (0 + ((-1) * ρ 5 + 0) : Int) ≤ 0 by omega) (pAll1 (show (1 + (1 * ρ 15 + ((-1) * ((wSk (wN h) (wB h) ((wSk (wN h) (wB h) (p)) + 1)) : Int) + 0)) : Int) ≤ 0 by omega) (pAll1 (show (0 + ((-1) * ρ 2 + (1 * ((wSk (wN h) (wB h) ((wSk (wN h) (wB h) (p)) + 1)) : Int) + 0)) : Int) ≤ 0 by omega) (pAll1 (show (0 + (1 * ρ 14 + ((-1) * (fNr (wN h) (wB h) (wSk (wN h) (wB h) ((wSk (wN h) (wB h) (p)) + 1))) + 0)) : Int) ≤ 0 by omega) (pAll1 (show (0 + ((-1) * ρ 14 + (1 * (fNr (wN h) (wB h) (wSk (wN h) (wB h) ((wSk (wN h) (wB h) (p)) + 1))) + 0)) : Int) ≤ 0 by omega) (pAll1 (show (1 + (1 * ((wSk (wN h) (wB h) ((wSk (wN h) (wB h) (p)) + 1)) : Int) + (1 * (fNr (wN h) (wB h) (wSk (wN h) (wB h) ((wSk (wN h) (wB h) (p)) + 1))) + 0)) : Int) ≤ 0 by omega) (pAll1 (show ((-1) + ((-1) * ρ 2 + ((-1) * (fNr (wN h) (wB h) (wSk (wN h) (wB h) ((wSk (wN h) (wB h) (p)) + 1))) + 0)) : Int) ≤ 0 by omega) (pAll0))))))))))))))
          · exact pAll1 (pgS ho hh ((wSk (wN h) (wB h) (p)) + 1) (by omega) (show (1 + (1 * ρ 15 + 0) : Int) = _ by omega) (show (0 + (1 * ((wSk (wN h) (wB h) ((wSk (wN h) (wB h) (p)) + 1)) : Int) + 0) : Int) = _ by omega)) (pAll1 (pgF hf 542 (by decide) (by decide) ((wSk (wN h) (wB h) ((wSk (wN h) (wB h) (p)) + 1))) (by omega) (show (0 + (1 * ((wSk (wN h) (wB h) ((wSk (wN h) (wB h) (p)) + 1)) : Int) + 0) : Int) = _ by omega) (show (0 + (1 * (fNr (wN h) (wB h) (wSk (wN h) (wB h) ((wSk (wN h) (wB h) (p)) + 1))) + 0) : Int) = _ by rw [fA_NR d0 hn]; omega)) (pAll0))
        · have d1 : (fNr (wN h) (wB h) (wSk (wN h) (wB h) ((wSk (wN h) (wB h) (p)) + 1))) = (e : Int) := d1
          have d2 : (wSk (wN h) (wB h) ((wSk (wN h) (wB h) (p)) + 1)) < e := d2
          have d4 : 0 ≤ (fNv (wN h) (wB h) (wSk (wN h) (wB h) ((wSk (wN h) (wB h) (p)) + 1))) := d4
          have d5 : (fNv (wN h) (wB h) (wSk (wN h) (wB h) ((wSk (wN h) (wB h) (p)) + 1))) ≤ 99 := d5
          obtain ⟨w, ew⟩ : ∃ w : Nat, (fNv (wN h) (wB h) (wSk (wN h) (wB h) ((wSk (wN h) (wB h) (p)) + 1))) = (w : Int) := ⟨(fNv (wN h) (wB h) (wSk (wN h) (wB h) ((wSk (wN h) (wB h) (p)) + 1))).toNat, by omega⟩
          have l1 : fLo 0 1 = 1 := rfl
          have l2 : fHi 0 1 = 20 := rfl
          rw [l1, l2] at d6
          rcases d6 with ⟨d7, d8⟩ | ⟨d7, d8, d9, d10, d11⟩
          · rw [d8] at er
            have d7 : (fNv (wN h) (wB h) (wSk (wN h) (wB h) ((wSk (wN h) (wB h) (p)) + 1))) < 1 ∨ 20 < (fNv (wN h) (wB h) (wSk (wN h) (wB h) ((wSk (wN h) (wB h) (p)) + 1))) := d7
            rcases d7 with d7 | d7
            · refine ⟨rIT0c_12, List.mem_of_getElem? (i := 12) rfl, pEnd [ρ 0, ρ 1, ρ 2, ρ 3, ρ 4, ρ 5, ρ 6, ρ 7, ρ 8, ρ 9, ρ 10, ρ 11, ρ 12, ρ 13, ρ 14, ρ 15, ρ 16, ((wSk (wN h) (wB h) ((wSk (wN h) (wB h) (p)) + 1)) : Int), (e : Int), (w : Int)] rfl ?_ ?_ ?_ ?_⟩
              · intro j hj
                match j, hj with
                | 0, _ => exact q0.symm
                | 1, _ => exact q1.symm
                | 2, _ => exact q2.symm
                | 3, _ => exact q3.symm
                | 4, _ => exact q4.symm
                | 5, _ => exact q5.symm
                | 6, _ => exact q6.symm
                | 7, _ => exact q7.symm
                | 8, _ => exact q8.symm
                | 9, _ => exact q9.symm
                | 10, _ => exact q10.symm
                | 11, _ => exact q11.symm
                | 12, _ => exact q12.symm
                | 13, _ => exact q13.symm
                | 14, _ => exact q14.symm
                | 15, _ => exact q15.symm
                | 16, _ => exact q16.symm
                | k + 17, hj => exact absurd hj (by show ¬ (k + 17 < 17); omega)
              · intro k b hk
                match k, hk with
                | 0, hk => cases hk; exact (show (0 : Int) ≤ ((wSk (wN h) (wB h) ((wSk (wN h) (wB h) (p)) + 1)) : Int) ∧ ((wSk (wN h) (wB h) ((wSk (wN h) (wB h) (p)) + 1)) : Int) ≤ (240 : Int) by omega)
                | 1, hk => cases hk; exact (show (0 : Int) ≤ (e : Int) ∧ (e : Int) ≤ (240 : Int) by omega)
                | 2, hk => cases hk; exact (show (0 : Int) ≤ (w : Int) ∧ (w : Int) ≤ (99 : Int) by omega)
                | k + 3, hk => cases hk
              · exact pAll1 (show (0 + (1 * ρ 3 + ((-1) * ρ 15 + 0)) : Int) ≤ 0 by omega) (pAll1 (show (0 + ((-1) * ρ 2 + (1 * ρ 15 + 0)) : Int) ≤ 0 by omega) (pAll1 (show (1 + ((-1) * ρ 2 + (1 * ρ 15 + 0)) : Int) ≤ 0 by omega) (pAll1 (show (1 + ((-1) * ρ 16 + 0) : Int) ≤ 0 by omega) (pAll1 (show ((-110) + (1 * ρ 16 + 0) : Int) ≤ 0 by omega) (pAll1 (show (110 + ((-1) * ρ 16 + 0) : Int) ≤ 0 by omega) (pAll1 (show (0 + (1 * ρ 5 + 0) : Int) ≤ 0 by omega) (pAll1 (show (0 + ((-1) * ρ 5 + 0) : Int) ≤ 0 by omega) (pAll1 (show (1 + (1 * ρ 15 + ((-1) * ((wSk (wN h) (wB h) ((wSk (wN h) (wB h) (p)) + 1)) : Int) + 0)) : Int) ≤ 0 by omega) (pAll1 (show (0 + ((-1) * ρ 2 + (1 * ((wSk (wN h) (wB h) ((wSk (wN h) (wB h) (p)) + 1)) : Int) + 0)) : Int) ≤ 0 by omega) (pAll1 (show (1 + (1 * ((wSk (wN h) (wB h) ((wSk (wN h) (wB h) (p)) + 1)) : Int) + ((-1) * (e : Int) + 0)) : Int) ≤ 0 by omega) (pAll1 (show (0 + ((-1) * ρ 2 + (1 * (e : Int) + 0)) : Int) ≤ 0 by omega) (pAll1 (show (0 + (1 * (w : Int) + 0) : Int) ≤ 0 by omega) (pAll1 (show (0 + (1 * ρ 14 + (1 * (e : Int) + 0)) : Int) ≤ 0 by omega) (pAll1 (show (0 + ((-1) * ρ 14 + ((-1) * (e : Int) + 0)) : Int) ≤ 0 by omega) (pAll0)))))))))))))))
              · exact pAll1 (pgS ho hh ((wSk (wN h) (wB h) (p)) + 1) (by omega) (show (1 + (1 * ρ 15 + 0) : Int) = _ by omega) (show (0 + (1 * ((wSk (wN h) (wB h) ((wSk (wN h) (wB h) (p)) + 1)) : Int) + 0) : Int) = _ by omega)) (pAll1 (pgF hf 542 (by decide) (by decide) ((wSk (wN h) (wB h) ((wSk (wN h) (wB h) (p)) + 1))) (by omega) (show (0 + (1 * ((wSk (wN h) (wB h) ((wSk (wN h) (wB h) (p)) + 1)) : Int) + 0) : Int) = _ by omega) (show (0 + (1 * (e : Int) + 0) : Int) = _ by rw [fA_NR d0 hn]; omega)) (pAll1 (pgF hf 543 (by decide) (by decide) ((wSk (wN h) (wB h) ((wSk (wN h) (wB h) (p)) + 1))) (by omega) (show (0 + (1 * ((wSk (wN h) (wB h) ((wSk (wN h) (wB h) (p)) + 1)) : Int) + 0) : Int) = _ by omega) (show (0 + (1 * (w : Int) + 0) : Int) = _ by rw [fA_NV d4 d5]; omega)) (pAll0)))
            · refine ⟨rIT0c_13, List.mem_of_getElem? (i := 13) rfl, pEnd [ρ 0, ρ 1, ρ 2, ρ 3, ρ 4, ρ 5, ρ 6, ρ 7, ρ 8, ρ 9, ρ 10, ρ 11, ρ 12, ρ 13, ρ 14, ρ 15, ρ 16, ((wSk (wN h) (wB h) ((wSk (wN h) (wB h) (p)) + 1)) : Int), (e : Int), (w : Int)] rfl ?_ ?_ ?_ ?_⟩
              · intro j hj
                match j, hj with
                | 0, _ => exact q0.symm
                | 1, _ => exact q1.symm
                | 2, _ => exact q2.symm
                | 3, _ => exact q3.symm
                | 4, _ => exact q4.symm
                | 5, _ => exact q5.symm
                | 6, _ => exact q6.symm
                | 7, _ => exact q7.symm
                | 8, _ => exact q8.symm
                | 9, _ => exact q9.symm
                | 10, _ => exact q10.symm
                | 11, _ => exact q11.symm
                | 12, _ => exact q12.symm
                | 13, _ => exact q13.symm
                | 14, _ => exact q14.symm
                | 15, _ => exact q15.symm
                | 16, _ => exact q16.symm
                | k + 17, hj => exact absurd hj (by show ¬ (k + 17 < 17); omega)
              · intro k b hk
                match k, hk with
                | 0, hk => cases hk; exact (show (0 : Int) ≤ ((wSk (wN h) (wB h) ((wSk (wN h) (wB h) (p)) + 1)) : Int) ∧ ((wSk (wN h) (wB h) ((wSk (wN h) (wB h) (p)) + 1)) : Int) ≤ (240 : Int) by omega)
                | 1, hk => cases hk; exact (show (0 : Int) ≤ (e : Int) ∧ (e : Int) ≤ (240 : Int) by omega)
                | 2, hk => cases hk; exact (show (0 : Int) ≤ (w : Int) ∧ (w : Int) ≤ (99 : Int) by omega)
                | k + 3, hk => cases hk
              · exact pAll1 (show (0 + (1 * ρ 3 + ((-1) * ρ 15 + 0)) : Int) ≤ 0 by omega) (pAll1 (show (0 + ((-1) * ρ 2 + (1 * ρ 15 + 0)) : Int) ≤ 0 by omega) (pAll1 (show (1 + ((-1) * ρ 2 + (1 * ρ 15 + 0)) : Int) ≤ 0 by omega) (pAll1 (show (1 + ((-1) * ρ 16 + 0) : Int) ≤ 0 by omega) (pAll1 (show ((-110) + (1 * ρ 16 + 0) : Int) ≤ 0 by omega) (pAll1 (show (110 + ((-1) * ρ 16 + 0) : Int) ≤ 0 by omega) (pAll1 (show (0 + (1 * ρ 5 + 0) : Int) ≤ 0 by omega) (pAll1 (show (0 + ((-1) * ρ 5 + 0) : Int) ≤ 0 by omega) (pAll1 (show (1 + (1 * ρ 15 + ((-1) * ((wSk (wN h) (wB h) ((wSk (wN h) (wB h) (p)) + 1)) : Int) + 0)) : Int) ≤ 0 by omega) (pAll1 (show (0 + ((-1) * ρ 2 + (1 * ((wSk (wN h) (wB h) ((wSk (wN h) (wB h) (p)) + 1)) : Int) + 0)) : Int) ≤ 0 by omega) (pAll1 (show (1 + (1 * ((wSk (wN h) (wB h) ((wSk (wN h) (wB h) (p)) + 1)) : Int) + ((-1) * (e : Int) + 0)) : Int) ≤ 0 by omega) (pAll1 (show (0 + ((-1) * ρ 2 + (1 * (e : Int) + 0)) : Int) ≤ 0 by omega) (pAll1 (show (21 + ((-1) * (w : Int) + 0) : Int) ≤ 0 by omega) (pAll1 (show (0 + (1 * ρ 14 + (1 * (e : Int) + 0)) : Int) ≤ 0 by omega) (pAll1 (show (0 + ((-1) * ρ 14 + ((-1) * (e : Int) + 0)) : Int) ≤ 0 by omega) (pAll0)))))))))))))))
              · exact pAll1 (pgS ho hh ((wSk (wN h) (wB h) (p)) + 1) (by omega) (show (1 + (1 * ρ 15 + 0) : Int) = _ by omega) (show (0 + (1 * ((wSk (wN h) (wB h) ((wSk (wN h) (wB h) (p)) + 1)) : Int) + 0) : Int) = _ by omega)) (pAll1 (pgF hf 542 (by decide) (by decide) ((wSk (wN h) (wB h) ((wSk (wN h) (wB h) (p)) + 1))) (by omega) (show (0 + (1 * ((wSk (wN h) (wB h) ((wSk (wN h) (wB h) (p)) + 1)) : Int) + 0) : Int) = _ by omega) (show (0 + (1 * (e : Int) + 0) : Int) = _ by rw [fA_NR d0 hn]; omega)) (pAll1 (pgF hf 543 (by decide) (by decide) ((wSk (wN h) (wB h) ((wSk (wN h) (wB h) (p)) + 1))) (by omega) (show (0 + (1 * ((wSk (wN h) (wB h) ((wSk (wN h) (wB h) (p)) + 1)) : Int) + 0) : Int) = _ by omega) (show (0 + (1 * (w : Int) + 0) : Int) = _ by rw [fA_NV d4 d5]; omega)) (pAll0)))
          · have d7 : 1 ≤ (fNv (wN h) (wB h) (wSk (wN h) (wB h) ((wSk (wN h) (wB h) (p)) + 1))) := d7
            have d8 : (fNv (wN h) (wB h) (wSk (wN h) (wB h) ((wSk (wN h) (wB h) (p)) + 1))) ≤ 20 := d8
            have d9 : g + 2 < 16 := d9
            have d10 : (fI (wN h) (wB h) 0 (g) (p)) = (fI (wN h) (wB h) 0 (g + 2) (e)) := d10
            rw [d10] at er
            have x0 : (fV (wN h) (wB h) 0 0 (g) (p) (v0 : Int)) = (fV (wN h) (wB h) 0 0 (g + 2) (e) (v0 : Int)) := by
              have y := d11 0 (v0 : Int)
              rw [if_neg (by decide)] at y
              exact y
            rw [x0] at ef0
            have x1 : (fV (wN h) (wB h) 0 1 (g) (p) (v1 : Int)) = (fV (wN h) (wB h) 0 1 (g + 2) (e) (w : Int)) := by
              have y := d11 1 (v1 : Int)
              rw [if_pos rfl] at y
              have y : (fV (wN h) (wB h) 0 1 (g) (p) (v1 : Int)) = (fV (wN h) (wB h) 0 1 (g + 2) (e) (fNv (wN h) (wB h) (wSk (wN h) (wB h) ((wSk (wN h) (wB h) (p)) + 1)))) := y
              rw [ew] at y
              exact y
            rw [x1] at ef1
            have x2 : (fV (wN h) (wB h) 0 2 (g) (p) (v2 : Int)) = (fV (wN h) (wB h) 0 2 (g + 2) (e) (v2 : Int)) := by
              have y := d11 2 (v2 : Int)
              rw [if_neg (by decide)] at y
              exact y
            rw [x2] at ef2
            refine ⟨rIT0c_11, List.mem_of_getElem? (i := 11) rfl, pEnd [ρ 0, ρ 1, ρ 2, ρ 3, ρ 4, ρ 5, ρ 6, ρ 7, ρ 8, ρ 9, ρ 10, ρ 11, ρ 12, ρ 13, ρ 14, ρ 15, ρ 16, ((wSk (wN h) (wB h) ((wSk (wN h) (wB h) (p)) + 1)) : Int), (e : Int), (w : Int)] rfl ?_ ?_ ?_ ?_⟩
            · intro j hj
              match j, hj with
              | 0, _ => exact q0.symm
              | 1, _ => exact q1.symm
              | 2, _ => exact q2.symm
              | 3, _ => exact q3.symm
              | 4, _ => exact q4.symm
              | 5, _ => exact q5.symm
              | 6, _ => exact q6.symm
              | 7, _ => exact q7.symm
              | 8, _ => exact q8.symm
              | 9, _ => exact q9.symm
              | 10, _ => exact q10.symm
              | 11, _ => exact q11.symm
              | 12, _ => exact q12.symm
              | 13, _ => exact q13.symm
              | 14, _ => exact q14.symm
              | 15, _ => exact q15.symm
              | 16, _ => exact q16.symm
              | k + 17, hj => exact absurd hj (by show ¬ (k + 17 < 17); omega)
            · intro k b hk
              match k, hk with
              | 0, hk => cases hk; exact (show (0 : Int) ≤ ((wSk (wN h) (wB h) ((wSk (wN h) (wB h) (p)) + 1)) : Int) ∧ ((wSk (wN h) (wB h) ((wSk (wN h) (wB h) (p)) + 1)) : Int) ≤ (240 : Int) by omega)
              | 1, hk => cases hk; exact (show (0 : Int) ≤ (e : Int) ∧ (e : Int) ≤ (240 : Int) by omega)
              | 2, hk => cases hk; exact (show (0 : Int) ≤ (w : Int) ∧ (w : Int) ≤ (99 : Int) by omega)
              | k + 3, hk => cases hk
            · exact pAll1 (show (0 + (1 * ρ 3 + ((-1) * ρ 15 + 0)) : Int) ≤ 0 by omega) (pAll1 (show (0 + ((-1) * ρ 2 + (1 * ρ 15 + 0)) : Int) ≤ 0 by omega) (pAll1 (show (1 + ((-1) * ρ 2 + (1 * ρ 15 + 0)) : Int) ≤ 0 by omega) (pAll1 (show (1 + ((-1) * ρ 16 + 0) : Int) ≤ 0 by omega) (pAll1 (show ((-110) + (1 * ρ 16 + 0) : Int) ≤ 0 by omega) (pAll1 (show (110 + ((-1) * ρ 16 + 0) : Int) ≤ 0 by omega) (pAll1 (show (0 + (1 * ρ 5 + 0) : Int) ≤ 0 by omega) (pAll1 (show (0 + ((-1) * ρ 5 + 0) : Int) ≤ 0 by omega) (pAll1 (show (1 + (1 * ρ 15 + ((-1) * ((wSk (wN h) (wB h) ((wSk (wN h) (wB h) (p)) + 1)) : Int) + 0)) : Int) ≤ 0 by omega) (pAll1 (show (0 + ((-1) * ρ 2 + (1 * ((wSk (wN h) (wB h) ((wSk (wN h) (wB h) (p)) + 1)) : Int) + 0)) : Int) ≤ 0 by omega) (pAll1 (show (1 + (1 * ((wSk (wN h) (wB h) ((wSk (wN h) (wB h) (p)) + 1)) : Int) + ((-1) * (e : Int) + 0)) : Int) ≤ 0 by omega) (pAll1 (show (0 + ((-1) * ρ 2 + (1 * (e : Int) + 0)) : Int) ≤ 0 by omega) (pAll1 (show (1 + ((-1) * (w : Int) + 0) : Int) ≤ 0 by omega) (pAll1 (show ((-20) + (1 * (w : Int) + 0) : Int) ≤ 0 by omega) (pAll0))))))))))))))
            · exact pAll1 (pgS ho hh ((wSk (wN h) (wB h) (p)) + 1) (by omega) (show (1 + (1 * ρ 15 + 0) : Int) = _ by omega) (show (0 + (1 * ((wSk (wN h) (wB h) ((wSk (wN h) (wB h) (p)) + 1)) : Int) + 0) : Int) = _ by omega)) (pAll1 (pgF hf 542 (by decide) (by decide) ((wSk (wN h) (wB h) ((wSk (wN h) (wB h) (p)) + 1))) (by omega) (show (0 + (1 * ((wSk (wN h) (wB h) ((wSk (wN h) (wB h) (p)) + 1)) : Int) + 0) : Int) = _ by omega) (show (0 + (1 * (e : Int) + 0) : Int) = _ by rw [fA_NR d0 hn]; omega)) (pAll1 (pgF hf 543 (by decide) (by decide) ((wSk (wN h) (wB h) ((wSk (wN h) (wB h) (p)) + 1))) (by omega) (show (0 + (1 * ((wSk (wN h) (wB h) ((wSk (wN h) (wB h) (p)) + 1)) : Int) + 0) : Int) = _ by omega) (show (0 + (1 * (w : Int) + 0) : Int) = _ by rw [fA_NV d4 d5]; omega)) (pAll1 (pgF hf 530 (by decide) (by decide) (16 * e + (g + 2)) (by omega) (show (2 + (1 * ρ 4 + (2 * ρ 5 + (4 * ρ 6 + (8 * ρ 7 + (16 * (e : Int) + 0))))) : Int) = _ by omega) (show (0 + (1 * ρ 14 + 0) : Int) = _ by rw [fA_IT0 (g := g + 2) d9 d3 hn]; omega)) (pAll1 (pgF hf 560 (by decide) (by decide) (1600 * e + 100 * (g + 2) + v0) (by omega) (show (200 + (100 * ρ 4 + (200 * ρ 5 + (400 * ρ 6 + (800 * ρ 7 + (1 * ρ 8 + (1600 * (e : Int) + 0)))))) : Int) = _ by omega) (show (0 + (1 * ρ 11 + 0) : Int) = _ by rw [fA_I (s := 0) (j := 0) (r := 560) (g := g + 2) (v := v0) (Or.inl ⟨rfl, rfl, by decide⟩) d9 d3 (by omega)]; omega)) (pAll1 (pgF hf 561 (by decide) (by decide) (1600 * e + 100 * (g + 2) + w) (by omega) (show (200 + (100 * ρ 4 + (200 * ρ 5 + (400 * ρ 6 + (800 * ρ 7 + (1600 * (e : Int) + (1 * (w : Int) + 0)))))) : Int) = _ by omega) (show (0 + (1 * ρ 12 + 0) : Int) = _ by rw [fA_I (s := 0) (j := 1) (r := 561) (g := g + 2) (v := w) (Or.inl ⟨rfl, rfl, by decide⟩) d9 d3 (by omega)]; omega)) (pAll1 (pgF hf 562 (by decide) (by decide) (1600 * e + 100 * (g + 2) + v2) (by omega) (show (200 + (100 * ρ 4 + (200 * ρ 5 + (400 * ρ 6 + (800 * ρ 7 + (1 * ρ 10 + (1600 * (e : Int) + 0)))))) : Int) = _ by omega) (show (0 + (1 * ρ 13 + 0) : Int) = _ by rw [fA_I (s := 0) (j := 2) (r := 562) (g := g + 2) (v := v2) (Or.inl ⟨rfl, rfl, by decide⟩) d9 d3 (by omega)]; omega)) (pAll0)))))))
    · rcases hc with ⟨c8, c9⟩ | ⟨c8, c9, d0, d⟩
      · rw [c9] at er
        unfold wFl at er
        rw [c8] at hb2
        refine ⟨rIT0c_14, List.mem_of_getElem? (i := 14) rfl, pEnd [ρ 0, ρ 1, ρ 2, ρ 3, ρ 4, ρ 5, ρ 6, ρ 7, ρ 8, ρ 9, ρ 10, ρ 11, ρ 12, ρ 13, ρ 14, ρ 15, ρ 16] rfl ?_ ?_ ?_ ?_⟩
        · exact hL
        · intro k b hk
          cases hk
        · exact pAll1 (show (0 + (1 * ρ 3 + ((-1) * ρ 15 + 0)) : Int) ≤ 0 by omega) (pAll1 (show (0 + ((-1) * ρ 2 + (1 * ρ 15 + 0)) : Int) ≤ 0 by omega) (pAll1 (show (1 + ((-1) * ρ 2 + (1 * ρ 15 + 0)) : Int) ≤ 0 by omega) (pAll1 (show (1 + ((-1) * ρ 16 + 0) : Int) ≤ 0 by omega) (pAll1 (show ((-99) + (1 * ρ 16 + 0) : Int) ≤ 0 by omega) (pAll1 (show (99 + ((-1) * ρ 16 + 0) : Int) ≤ 0 by omega) (pAll1 (show ((-1) + (1 * ρ 6 + 0) : Int) ≤ 0 by omega) (pAll1 (show (1 + ((-1) * ρ 6 + 0) : Int) ≤ 0 by omega) (pAll1 (show (1 + (1 * ρ 14 + (1 * ρ 15 + 0)) : Int) ≤ 0 by omega) (pAll1 (show ((-1) + ((-1) * ρ 14 + ((-1) * ρ 15 + 0)) : Int) ≤ 0 by omega) (pAll0))))))))))
        · exact pAll0
      · rw [c8] at hb2
        have c9 : (wSk (wN h) (wB h) (p)) + 1 ≤ (wSk (wN h) (wB h) ((wSk (wN h) (wB h) (p)) + 1)) := c9
        have d0 : (wSk (wN h) (wB h) ((wSk (wN h) (wB h) (p)) + 1)) ≤ wN h := d0
        rcases d with ⟨d1, d2, d3, d4⟩ | ⟨e, d1, d2, d3, d4, d5, d6⟩
        · have d1 : (fNr (wN h) (wB h) (wSk (wN h) (wB h) ((wSk (wN h) (wB h) (p)) + 1))) < 0 := d1
          have d2 : (fI (wN h) (wB h) 0 (g) (p)) = (fNr (wN h) (wB h) (wSk (wN h) (wB h) ((wSk (wN h) (wB h) (p)) + 1))) := d2
          have d3 : ((wSk (wN h) (wB h) ((wSk (wN h) (wB h) (p)) + 1)) : Int) ≤ -(fNr (wN h) (wB h) (wSk (wN h) (wB h) ((wSk (wN h) (wB h) (p)) + 1))) - 1 := d3
          have d4 : -(fNr (wN h) (wB h) (wSk (wN h) (wB h) ((wSk (wN h) (wB h) (p)) + 1))) - 1 ≤ (wN h : Int) := d4
          rw [d2] at er
          refine ⟨rIT0c_15, List.mem_of_getElem? (i := 15) rfl, pEnd [ρ 0, ρ 1, ρ 2, ρ 3, ρ 4, ρ 5, ρ 6, ρ 7, ρ 8, ρ 9, ρ 10, ρ 11, ρ 12, ρ 13, ρ 14, ρ 15, ρ 16, ((wSk (wN h) (wB h) ((wSk (wN h) (wB h) (p)) + 1)) : Int), (fNr (wN h) (wB h) (wSk (wN h) (wB h) ((wSk (wN h) (wB h) (p)) + 1)))] rfl ?_ ?_ ?_ ?_⟩
          · intro j hj
            match j, hj with
            | 0, _ => exact q0.symm
            | 1, _ => exact q1.symm
            | 2, _ => exact q2.symm
            | 3, _ => exact q3.symm
            | 4, _ => exact q4.symm
            | 5, _ => exact q5.symm
            | 6, _ => exact q6.symm
            | 7, _ => exact q7.symm
            | 8, _ => exact q8.symm
            | 9, _ => exact q9.symm
            | 10, _ => exact q10.symm
            | 11, _ => exact q11.symm
            | 12, _ => exact q12.symm
            | 13, _ => exact q13.symm
            | 14, _ => exact q14.symm
            | 15, _ => exact q15.symm
            | 16, _ => exact q16.symm
            | k + 17, hj => exact absurd hj (by show ¬ (k + 17 < 17); omega)
          · intro k b hk
            match k, hk with
            | 0, hk => cases hk; exact (show (0 : Int) ≤ ((wSk (wN h) (wB h) ((wSk (wN h) (wB h) (p)) + 1)) : Int) ∧ ((wSk (wN h) (wB h) ((wSk (wN h) (wB h) (p)) + 1)) : Int) ≤ (240 : Int) by omega)
            | 1, hk => cases hk; exact (show ((-241) : Int) ≤ (fNr (wN h) (wB h) (wSk (wN h) (wB h) ((wSk (wN h) (wB h) (p)) + 1))) ∧ (fNr (wN h) (wB h) (wSk (wN h) (wB h) ((wSk (wN h) (wB h) (p)) + 1))) ≤ ((-1) : Int) by omega)
            | k + 2, hk => cases hk
          · exact pAll1 (show (0 + (1 * ρ 3 + ((-1) * ρ 15 + 0)) : Int) ≤ 0 by omega) (pAll1 (show (0 + ((-1) * ρ 2 + (1 * ρ 15 + 0)) : Int) ≤ 0 by omega) (pAll1 (show (1 + ((-1) * ρ 2 + (1 * ρ 15 + 0)) : Int) ≤ 0 by omega) (pAll1 (show (1 + ((-1) * ρ 16 + 0) : Int) ≤ 0 by omega) (pAll1 (show ((-99) + (1 * ρ 16 + 0) : Int) ≤ 0 by omega) (pAll1 (show (99 + ((-1) * ρ 16 + 0) : Int) ≤ 0 by omega) (pAll1 (show (0 + (1 * ρ 6 + 0) : Int) ≤ 0 by omega) (pAll1 (show (0 + ((-1) * ρ 6 + 0) : Int) ≤ 0 by omega) (pAll1 (show (1 + (1 * ρ 15 + ((-1) * ((wSk (wN h) (wB h) ((wSk (wN h) (wB h) (p)) + 1)) : Int) + 0)) : Int) ≤ 0 by omega) (pAll1 (show (0 + ((-1) * ρ 2 + (1 * ((wSk (wN h) (wB h) ((wSk (wN h) (wB h) (p)) + 1)) : Int) + 0)) : Int) ≤ 0 by omega) (pAll1 (show (0 + (1 * ρ 14 + ((-1) * (fNr (wN h) (wB h) (wSk (wN h) (wB h) ((wSk (wN h) (wB h) (p)) + 1))) + 0)) : Int) ≤ 0 by omega) (pAll1 (show (0 + ((-1) * ρ 14 + (1 * (fNr (wN h) (wB h) (wSk (wN h) (wB h) ((wSk (wN h) (wB h) (p)) + 1))) + 0)) : Int) ≤ 0 by omega) (pAll1 (show (1 + (1 * ((wSk (wN h) (wB h) ((wSk (wN h) (wB h) (p)) + 1)) : Int) + (1 * (fNr (wN h) (wB h) (wSk (wN h) (wB h) ((wSk (wN h) (wB h) (p)) + 1))) + 0)) : Int) ≤ 0 by omega) (pAll1 (show ((-1) + ((-1) * ρ 2 + ((-1) * (fNr (wN h) (wB h) (wSk (wN h) (wB h) ((wSk (wN h) (wB h) (p)) + 1))) + 0)) : Int) ≤ 0 by omega) (pAll0))))))))))))))
          · exact pAll1 (pgS ho hh ((wSk (wN h) (wB h) (p)) + 1) (by omega) (show (1 + (1 * ρ 15 + 0) : Int) = _ by omega) (show (0 + (1 * ((wSk (wN h) (wB h) ((wSk (wN h) (wB h) (p)) + 1)) : Int) + 0) : Int) = _ by omega)) (pAll1 (pgF hf 542 (by decide) (by decide) ((wSk (wN h) (wB h) ((wSk (wN h) (wB h) (p)) + 1))) (by omega) (show (0 + (1 * ((wSk (wN h) (wB h) ((wSk (wN h) (wB h) (p)) + 1)) : Int) + 0) : Int) = _ by omega) (show (0 + (1 * (fNr (wN h) (wB h) (wSk (wN h) (wB h) ((wSk (wN h) (wB h) (p)) + 1))) + 0) : Int) = _ by rw [fA_NR d0 hn]; omega)) (pAll0))
        · have d1 : (fNr (wN h) (wB h) (wSk (wN h) (wB h) ((wSk (wN h) (wB h) (p)) + 1))) = (e : Int) := d1
          have d2 : (wSk (wN h) (wB h) ((wSk (wN h) (wB h) (p)) + 1)) < e := d2
          have d4 : 0 ≤ (fNv (wN h) (wB h) (wSk (wN h) (wB h) ((wSk (wN h) (wB h) (p)) + 1))) := d4
          have d5 : (fNv (wN h) (wB h) (wSk (wN h) (wB h) ((wSk (wN h) (wB h) (p)) + 1))) ≤ 99 := d5
          obtain ⟨w, ew⟩ : ∃ w : Nat, (fNv (wN h) (wB h) (wSk (wN h) (wB h) ((wSk (wN h) (wB h) (p)) + 1))) = (w : Int) := ⟨(fNv (wN h) (wB h) (wSk (wN h) (wB h) ((wSk (wN h) (wB h) (p)) + 1))).toNat, by omega⟩
          have l1 : fLo 0 2 = 0 := rfl
          have l2 : fHi 0 2 = 99 := rfl
          rw [l1, l2] at d6
          rcases d6 with ⟨d7, d8⟩ | ⟨d7, d8, d9, d10, d11⟩
          · rw [d8] at er
            have d7 : (fNv (wN h) (wB h) (wSk (wN h) (wB h) ((wSk (wN h) (wB h) (p)) + 1))) < 0 ∨ 99 < (fNv (wN h) (wB h) (wSk (wN h) (wB h) ((wSk (wN h) (wB h) (p)) + 1))) := d7
            rcases d7 with d7 | d7
            · omega
            · omega
          · have d7 : 0 ≤ (fNv (wN h) (wB h) (wSk (wN h) (wB h) ((wSk (wN h) (wB h) (p)) + 1))) := d7
            have d8 : (fNv (wN h) (wB h) (wSk (wN h) (wB h) ((wSk (wN h) (wB h) (p)) + 1))) ≤ 99 := d8
            have d9 : g + 4 < 16 := d9
            have d10 : (fI (wN h) (wB h) 0 (g) (p)) = (fI (wN h) (wB h) 0 (g + 4) (e)) := d10
            rw [d10] at er
            have x0 : (fV (wN h) (wB h) 0 0 (g) (p) (v0 : Int)) = (fV (wN h) (wB h) 0 0 (g + 4) (e) (v0 : Int)) := by
              have y := d11 0 (v0 : Int)
              rw [if_neg (by decide)] at y
              exact y
            rw [x0] at ef0
            have x1 : (fV (wN h) (wB h) 0 1 (g) (p) (v1 : Int)) = (fV (wN h) (wB h) 0 1 (g + 4) (e) (v1 : Int)) := by
              have y := d11 1 (v1 : Int)
              rw [if_neg (by decide)] at y
              exact y
            rw [x1] at ef1
            have x2 : (fV (wN h) (wB h) 0 2 (g) (p) (v2 : Int)) = (fV (wN h) (wB h) 0 2 (g + 4) (e) (w : Int)) := by
              have y := d11 2 (v2 : Int)
              rw [if_pos rfl] at y
              have y : (fV (wN h) (wB h) 0 2 (g) (p) (v2 : Int)) = (fV (wN h) (wB h) 0 2 (g + 4) (e) (fNv (wN h) (wB h) (wSk (wN h) (wB h) ((wSk (wN h) (wB h) (p)) + 1)))) := y
              rw [ew] at y
              exact y
            rw [x2] at ef2
            refine ⟨rIT0c_16, List.mem_of_getElem? (i := 16) rfl, pEnd [ρ 0, ρ 1, ρ 2, ρ 3, ρ 4, ρ 5, ρ 6, ρ 7, ρ 8, ρ 9, ρ 10, ρ 11, ρ 12, ρ 13, ρ 14, ρ 15, ρ 16, ((wSk (wN h) (wB h) ((wSk (wN h) (wB h) (p)) + 1)) : Int), (e : Int), (w : Int)] rfl ?_ ?_ ?_ ?_⟩
            · intro j hj
              match j, hj with
              | 0, _ => exact q0.symm
              | 1, _ => exact q1.symm
              | 2, _ => exact q2.symm
              | 3, _ => exact q3.symm
              | 4, _ => exact q4.symm
              | 5, _ => exact q5.symm
              | 6, _ => exact q6.symm
              | 7, _ => exact q7.symm
              | 8, _ => exact q8.symm
              | 9, _ => exact q9.symm
              | 10, _ => exact q10.symm
              | 11, _ => exact q11.symm
              | 12, _ => exact q12.symm
              | 13, _ => exact q13.symm
              | 14, _ => exact q14.symm
              | 15, _ => exact q15.symm
              | 16, _ => exact q16.symm
              | k + 17, hj => exact absurd hj (by show ¬ (k + 17 < 17); omega)
            · intro k b hk
              match k, hk with
              | 0, hk => cases hk; exact (show (0 : Int) ≤ ((wSk (wN h) (wB h) ((wSk (wN h) (wB h) (p)) + 1)) : Int) ∧ ((wSk (wN h) (wB h) ((wSk (wN h) (wB h) (p)) + 1)) : Int) ≤ (240 : Int) by omega)
              | 1, hk => cases hk; exact (show (0 : Int) ≤ (e : Int) ∧ (e : Int) ≤ (240 : Int) by omega)
              | 2, hk => cases hk; exact (show (0 : Int) ≤ (w : Int) ∧ (w : Int) ≤ (99 : Int) by omega)
              | k + 3, hk => cases hk
            · exact pAll1 (show (0 + (1 * ρ 3 + ((-1) * ρ 15 + 0)) : Int) ≤ 0 by omega) (pAll1 (show (0 + ((-1) * ρ 2 + (1 * ρ 15 + 0)) : Int) ≤ 0 by omega) (pAll1 (show (1 + ((-1) * ρ 2 + (1 * ρ 15 + 0)) : Int) ≤ 0 by omega) (pAll1 (show (1 + ((-1) * ρ 16 + 0) : Int) ≤ 0 by omega) (pAll1 (show ((-99) + (1 * ρ 16 + 0) : Int) ≤ 0 by omega) (pAll1 (show (99 + ((-1) * ρ 16 + 0) : Int) ≤ 0 by omega) (pAll1 (show (0 + (1 * ρ 6 + 0) : Int) ≤ 0 by omega) (pAll1 (show (0 + ((-1) * ρ 6 + 0) : Int) ≤ 0 by omega) (pAll1 (show (1 + (1 * ρ 15 + ((-1) * ((wSk (wN h) (wB h) ((wSk (wN h) (wB h) (p)) + 1)) : Int) + 0)) : Int) ≤ 0 by omega) (pAll1 (show (0 + ((-1) * ρ 2 + (1 * ((wSk (wN h) (wB h) ((wSk (wN h) (wB h) (p)) + 1)) : Int) + 0)) : Int) ≤ 0 by omega) (pAll1 (show (1 + (1 * ((wSk (wN h) (wB h) ((wSk (wN h) (wB h) (p)) + 1)) : Int) + ((-1) * (e : Int) + 0)) : Int) ≤ 0 by omega) (pAll1 (show (0 + ((-1) * ρ 2 + (1 * (e : Int) + 0)) : Int) ≤ 0 by omega) (pAll1 (show (0 + ((-1) * (w : Int) + 0) : Int) ≤ 0 by omega) (pAll1 (show ((-99) + (1 * (w : Int) + 0) : Int) ≤ 0 by omega) (pAll0))))))))))))))
            · exact pAll1 (pgS ho hh ((wSk (wN h) (wB h) (p)) + 1) (by omega) (show (1 + (1 * ρ 15 + 0) : Int) = _ by omega) (show (0 + (1 * ((wSk (wN h) (wB h) ((wSk (wN h) (wB h) (p)) + 1)) : Int) + 0) : Int) = _ by omega)) (pAll1 (pgF hf 542 (by decide) (by decide) ((wSk (wN h) (wB h) ((wSk (wN h) (wB h) (p)) + 1))) (by omega) (show (0 + (1 * ((wSk (wN h) (wB h) ((wSk (wN h) (wB h) (p)) + 1)) : Int) + 0) : Int) = _ by omega) (show (0 + (1 * (e : Int) + 0) : Int) = _ by rw [fA_NR d0 hn]; omega)) (pAll1 (pgF hf 543 (by decide) (by decide) ((wSk (wN h) (wB h) ((wSk (wN h) (wB h) (p)) + 1))) (by omega) (show (0 + (1 * ((wSk (wN h) (wB h) ((wSk (wN h) (wB h) (p)) + 1)) : Int) + 0) : Int) = _ by omega) (show (0 + (1 * (w : Int) + 0) : Int) = _ by rw [fA_NV d4 d5]; omega)) (pAll1 (pgF hf 530 (by decide) (by decide) (16 * e + (g + 4)) (by omega) (show (4 + (1 * ρ 4 + (2 * ρ 5 + (4 * ρ 6 + (8 * ρ 7 + (16 * (e : Int) + 0))))) : Int) = _ by omega) (show (0 + (1 * ρ 14 + 0) : Int) = _ by rw [fA_IT0 (g := g + 4) d9 d3 hn]; omega)) (pAll1 (pgF hf 560 (by decide) (by decide) (1600 * e + 100 * (g + 4) + v0) (by omega) (show (400 + (100 * ρ 4 + (200 * ρ 5 + (400 * ρ 6 + (800 * ρ 7 + (1 * ρ 8 + (1600 * (e : Int) + 0)))))) : Int) = _ by omega) (show (0 + (1 * ρ 11 + 0) : Int) = _ by rw [fA_I (s := 0) (j := 0) (r := 560) (g := g + 4) (v := v0) (Or.inl ⟨rfl, rfl, by decide⟩) d9 d3 (by omega)]; omega)) (pAll1 (pgF hf 561 (by decide) (by decide) (1600 * e + 100 * (g + 4) + v1) (by omega) (show (400 + (100 * ρ 4 + (200 * ρ 5 + (400 * ρ 6 + (800 * ρ 7 + (1 * ρ 9 + (1600 * (e : Int) + 0)))))) : Int) = _ by omega) (show (0 + (1 * ρ 12 + 0) : Int) = _ by rw [fA_I (s := 0) (j := 1) (r := 561) (g := g + 4) (v := v1) (Or.inl ⟨rfl, rfl, by decide⟩) d9 d3 (by omega)]; omega)) (pAll1 (pgF hf 562 (by decide) (by decide) (1600 * e + 100 * (g + 4) + w) (by omega) (show (400 + (100 * ρ 4 + (200 * ρ 5 + (400 * ρ 6 + (800 * ρ 7 + (1600 * (e : Int) + (1 * (w : Int) + 0)))))) : Int) = _ by omega) (show (0 + (1 * ρ 13 + 0) : Int) = _ by rw [fA_I (s := 0) (j := 2) (r := 562) (g := g + 4) (v := w) (Or.inl ⟨rfl, rfl, by decide⟩) d9 d3 (by omega)]; omega)) (pAll0)))))))
    · omega
noncomputable def rIT1c_0 : sX := (none, [], [], [(0, [(3, 1), (17, (-1))]), (0, [(2, (-1)), (17, 1)]), ((-97), [(18, 1)]), (0, [(16, 1), (17, (-1))]), (0, [(16, (-1)), (17, 1)]), (0, [(8, (-1)), (12, 1)]), (0, [(8, 1), (12, (-1))]), (0, [(9, (-1)), (13, 1)]), (0, [(9, 1), (13, (-1))]), (0, [(10, (-1)), (14, 1)]), (0, [(10, 1), (14, (-1))]), (0, [(11, (-1)), (15, 1)]), (0, [(11, 1), (15, (-1))])], [])
noncomputable def rIT1c_1 : sX := (none, [], [], [(0, [(3, 1), (17, (-1))]), (0, [(2, (-1)), (17, 1)]), (99, [(18, (-1))]), ((-99), [(18, 1)]), (0, [(16, 1), (17, (-1))]), (0, [(16, (-1)), (17, 1)]), (0, [(8, (-1)), (12, 1)]), (0, [(8, 1), (12, (-1))]), (0, [(9, (-1)), (13, 1)]), (0, [(9, 1), (13, (-1))]), (0, [(10, (-1)), (14, 1)]), (0, [(10, 1), (14, (-1))]), (0, [(11, (-1)), (15, 1)]), (0, [(11, 1), (15, (-1))])], [])
noncomputable def rIT1c_2 : sX := (none, [], [], [(0, [(3, 1), (17, (-1))]), (0, [(2, (-1)), (17, 1)]), (102, [(18, (-1))]), ((-109), [(18, 1)]), (0, [(16, 1), (17, (-1))]), (0, [(16, (-1)), (17, 1)]), (0, [(8, (-1)), (12, 1)]), (0, [(8, 1), (12, (-1))]), (0, [(9, (-1)), (13, 1)]), (0, [(9, 1), (13, (-1))]), (0, [(10, (-1)), (14, 1)]), (0, [(10, 1), (14, (-1))]), (0, [(11, (-1)), (15, 1)]), (0, [(11, 1), (15, (-1))])], [])
noncomputable def rIT1c_3 : sX := (none, [], [], [(0, [(3, 1), (17, (-1))]), (0, [(2, (-1)), (17, 1)]), (111, [(18, (-1))]), (0, [(16, 1), (17, (-1))]), (0, [(16, (-1)), (17, 1)]), (0, [(8, (-1)), (12, 1)]), (0, [(8, 1), (12, (-1))]), (0, [(9, (-1)), (13, 1)]), (0, [(9, 1), (13, (-1))]), (0, [(10, (-1)), (14, 1)]), (0, [(10, 1), (14, (-1))]), (0, [(11, (-1)), (15, 1)]), (0, [(11, 1), (15, (-1))])], [])
noncomputable def rIT1c_4 : sX := (none, [], [], [(0, [(3, 1), (17, (-1))]), (0, [(2, (-1)), (17, 1)]), (1, [(2, (-1)), (17, 1)]), (1, [(18, (-1))]), ((-110), [(18, 1)]), (110, [(18, (-1))]), ((-1), [(4, 1)]), (1, [(4, (-1))]), (1, [(16, 1), (17, 1)]), ((-1), [(16, (-1)), (17, (-1))])], [])
noncomputable def rIT1c_5 : sX := (none, [(500, (1, [(17, 1)]), (0, [(19, 1)])), (542, (0, [(19, 1)]), (0, [(20, 1)]))], [(0, 240), ((-241), (-1))], [(0, [(3, 1), (17, (-1))]), (0, [(2, (-1)), (17, 1)]), (1, [(2, (-1)), (17, 1)]), (1, [(18, (-1))]), ((-110), [(18, 1)]), (110, [(18, (-1))]), (0, [(4, 1)]), (0, [(4, (-1))]), (1, [(17, 1), (19, (-1))]), (0, [(2, (-1)), (19, 1)]), (0, [(16, 1), (20, (-1))]), (0, [(16, (-1)), (20, 1)]), (1, [(19, 1), (20, 1)]), ((-1), [(2, (-1)), (20, (-1))])], [])
noncomputable def rIT1c_6 : sX := (none, [(500, (1, [(17, 1)]), (0, [(19, 1)])), (542, (0, [(19, 1)]), (0, [(20, 1)])), (543, (0, [(19, 1)]), (0, [(21, 1)])), (531, (1, [(4, 1), (5, 2), (6, 4), (7, 8), (20, 16)]), (0, [(16, 1)])), (563, (100, [(4, 100), (5, 200), (6, 400), (7, 800), (20, 1600), (21, 1)]), (0, [(12, 1)])), (564, (100, [(4, 100), (5, 200), (6, 400), (7, 800), (9, 1), (20, 1600)]), (0, [(13, 1)])), (565, (100, [(4, 100), (5, 200), (6, 400), (7, 800), (10, 1), (20, 1600)]), (0, [(14, 1)])), (566, (100, [(4, 100), (5, 200), (6, 400), (7, 800), (11, 1), (20, 1600)]), (0, [(15, 1)]))], [(0, 240), (0, 240), (0, 99)], [(0, [(3, 1), (17, (-1))]), (0, [(2, (-1)), (17, 1)]), (1, [(2, (-1)), (17, 1)]), (1, [(18, (-1))]), ((-110), [(18, 1)]), (110, [(18, (-1))]), (0, [(4, 1)]), (0, [(4, (-1))]), (1, [(17, 1), (19, (-1))]), (0, [(2, (-1)), (19, 1)]), (1, [(19, 1), (20, (-1))]), (0, [(2, (-1)), (20, 1)]), (0, [(21, (-1))]), ((-10), [(21, 1)])], [])
noncomputable def rIT1c_7 : sX := (none, [(500, (1, [(17, 1)]), (0, [(19, 1)])), (542, (0, [(19, 1)]), (0, [(20, 1)])), (543, (0, [(19, 1)]), (0, [(21, 1)]))], [(0, 240), (0, 240), (0, 99)], [(0, [(3, 1), (17, (-1))]), (0, [(2, (-1)), (17, 1)]), (1, [(2, (-1)), (17, 1)]), (1, [(18, (-1))]), ((-110), [(18, 1)]), (110, [(18, (-1))]), (0, [(4, 1)]), (0, [(4, (-1))]), (1, [(17, 1), (19, (-1))]), (0, [(2, (-1)), (19, 1)]), (1, [(19, 1), (20, (-1))]), (0, [(2, (-1)), (20, 1)]), (11, [(21, (-1))]), (0, [(16, 1), (20, 1)]), (0, [(16, (-1)), (20, (-1))])], [])
noncomputable def rIT1c_8 : sX := (none, [], [], [(0, [(3, 1), (17, (-1))]), (0, [(2, (-1)), (17, 1)]), (1, [(2, (-1)), (17, 1)]), (1, [(18, (-1))]), ((-100), [(18, 1)]), (100, [(18, (-1))]), ((-1), [(5, 1)]), (1, [(5, (-1))]), (1, [(16, 1), (17, 1)]), ((-1), [(16, (-1)), (17, (-1))])], [])
noncomputable def rIT1c_9 : sX := (none, [(500, (1, [(17, 1)]), (0, [(19, 1)])), (542, (0, [(19, 1)]), (0, [(20, 1)]))], [(0, 240), ((-241), (-1))], [(0, [(3, 1), (17, (-1))]), (0, [(2, (-1)), (17, 1)]), (1, [(2, (-1)), (17, 1)]), (1, [(18, (-1))]), ((-100), [(18, 1)]), (100, [(18, (-1))]), (0, [(5, 1)]), (0, [(5, (-1))]), (1, [(17, 1), (19, (-1))]), (0, [(2, (-1)), (19, 1)]), (0, [(16, 1), (20, (-1))]), (0, [(16, (-1)), (20, 1)]), (1, [(19, 1), (20, 1)]), ((-1), [(2, (-1)), (20, (-1))])], [])
noncomputable def rIT1c_10 : sX := (none, [(500, (1, [(17, 1)]), (0, [(19, 1)])), (542, (0, [(19, 1)]), (0, [(20, 1)])), (543, (0, [(19, 1)]), (0, [(21, 1)])), (531, (2, [(4, 1), (5, 2), (6, 4), (7, 8), (20, 16)]), (0, [(16, 1)])), (563, (200, [(4, 100), (5, 200), (6, 400), (7, 800), (8, 1), (20, 1600)]), (0, [(12, 1)])), (564, (200, [(4, 100), (5, 200), (6, 400), (7, 800), (20, 1600), (21, 1)]), (0, [(13, 1)])), (565, (200, [(4, 100), (5, 200), (6, 400), (7, 800), (10, 1), (20, 1600)]), (0, [(14, 1)])), (566, (200, [(4, 100), (5, 200), (6, 400), (7, 800), (11, 1), (20, 1600)]), (0, [(15, 1)]))], [(0, 240), (0, 240), (0, 99)], [(0, [(3, 1), (17, (-1))]), (0, [(2, (-1)), (17, 1)]), (1, [(2, (-1)), (17, 1)]), (1, [(18, (-1))]), ((-100), [(18, 1)]), (100, [(18, (-1))]), (0, [(5, 1)]), (0, [(5, (-1))]), (1, [(17, 1), (19, (-1))]), (0, [(2, (-1)), (19, 1)]), (1, [(19, 1), (20, (-1))]), (0, [(2, (-1)), (20, 1)]), (0, [(21, (-1))]), ((-9), [(21, 1)])], [])
noncomputable def rIT1c_11 : sX := (none, [(500, (1, [(17, 1)]), (0, [(19, 1)])), (542, (0, [(19, 1)]), (0, [(20, 1)])), (543, (0, [(19, 1)]), (0, [(21, 1)]))], [(0, 240), (0, 240), (0, 99)], [(0, [(3, 1), (17, (-1))]), (0, [(2, (-1)), (17, 1)]), (1, [(2, (-1)), (17, 1)]), (1, [(18, (-1))]), ((-100), [(18, 1)]), (100, [(18, (-1))]), (0, [(5, 1)]), (0, [(5, (-1))]), (1, [(17, 1), (19, (-1))]), (0, [(2, (-1)), (19, 1)]), (1, [(19, 1), (20, (-1))]), (0, [(2, (-1)), (20, 1)]), (10, [(21, (-1))]), (0, [(16, 1), (20, 1)]), (0, [(16, (-1)), (20, (-1))])], [])
noncomputable def rIT1c_12 : sX := (none, [], [], [(0, [(3, 1), (17, (-1))]), (0, [(2, (-1)), (17, 1)]), (1, [(2, (-1)), (17, 1)]), (1, [(18, (-1))]), ((-101), [(18, 1)]), (101, [(18, (-1))]), ((-1), [(6, 1)]), (1, [(6, (-1))]), (1, [(16, 1), (17, 1)]), ((-1), [(16, (-1)), (17, (-1))])], [])
noncomputable def rIT1c_13 : sX := (none, [(500, (1, [(17, 1)]), (0, [(19, 1)])), (542, (0, [(19, 1)]), (0, [(20, 1)]))], [(0, 240), ((-241), (-1))], [(0, [(3, 1), (17, (-1))]), (0, [(2, (-1)), (17, 1)]), (1, [(2, (-1)), (17, 1)]), (1, [(18, (-1))]), ((-101), [(18, 1)]), (101, [(18, (-1))]), (0, [(6, 1)]), (0, [(6, (-1))]), (1, [(17, 1), (19, (-1))]), (0, [(2, (-1)), (19, 1)]), (0, [(16, 1), (20, (-1))]), (0, [(16, (-1)), (20, 1)]), (1, [(19, 1), (20, 1)]), ((-1), [(2, (-1)), (20, (-1))])], [])
noncomputable def rIT1c_14 : sX := (none, [(500, (1, [(17, 1)]), (0, [(19, 1)])), (542, (0, [(19, 1)]), (0, [(20, 1)])), (543, (0, [(19, 1)]), (0, [(21, 1)])), (531, (4, [(4, 1), (5, 2), (6, 4), (7, 8), (20, 16)]), (0, [(16, 1)])), (563, (400, [(4, 100), (5, 200), (6, 400), (7, 800), (8, 1), (20, 1600)]), (0, [(12, 1)])), (564, (400, [(4, 100), (5, 200), (6, 400), (7, 800), (9, 1), (20, 1600)]), (0, [(13, 1)])), (565, (400, [(4, 100), (5, 200), (6, 400), (7, 800), (20, 1600), (21, 1)]), (0, [(14, 1)])), (566, (400, [(4, 100), (5, 200), (6, 400), (7, 800), (11, 1), (20, 1600)]), (0, [(15, 1)]))], [(0, 240), (0, 240), (0, 99)], [(0, [(3, 1), (17, (-1))]), (0, [(2, (-1)), (17, 1)]), (1, [(2, (-1)), (17, 1)]), (1, [(18, (-1))]), ((-101), [(18, 1)]), (101, [(18, (-1))]), (0, [(6, 1)]), (0, [(6, (-1))]), (1, [(17, 1), (19, (-1))]), (0, [(2, (-1)), (19, 1)]), (1, [(19, 1), (20, (-1))]), (0, [(2, (-1)), (20, 1)]), (0, [(21, (-1))]), ((-9), [(21, 1)])], [])
noncomputable def rIT1c_15 : sX := (none, [(500, (1, [(17, 1)]), (0, [(19, 1)])), (542, (0, [(19, 1)]), (0, [(20, 1)])), (543, (0, [(19, 1)]), (0, [(21, 1)]))], [(0, 240), (0, 240), (0, 99)], [(0, [(3, 1), (17, (-1))]), (0, [(2, (-1)), (17, 1)]), (1, [(2, (-1)), (17, 1)]), (1, [(18, (-1))]), ((-101), [(18, 1)]), (101, [(18, (-1))]), (0, [(6, 1)]), (0, [(6, (-1))]), (1, [(17, 1), (19, (-1))]), (0, [(2, (-1)), (19, 1)]), (1, [(19, 1), (20, (-1))]), (0, [(2, (-1)), (20, 1)]), (10, [(21, (-1))]), (0, [(16, 1), (20, 1)]), (0, [(16, (-1)), (20, (-1))])], [])
noncomputable def rIT1c_16 : sX := (none, [], [], [(0, [(3, 1), (17, (-1))]), (0, [(2, (-1)), (17, 1)]), (1, [(2, (-1)), (17, 1)]), (1, [(18, (-1))]), ((-98), [(18, 1)]), (98, [(18, (-1))]), ((-1), [(7, 1)]), (1, [(7, (-1))]), (1, [(16, 1), (17, 1)]), ((-1), [(16, (-1)), (17, (-1))])], [])
noncomputable def rIT1c_17 : sX := (none, [(500, (1, [(17, 1)]), (0, [(19, 1)])), (542, (0, [(19, 1)]), (0, [(20, 1)]))], [(0, 240), ((-241), (-1))], [(0, [(3, 1), (17, (-1))]), (0, [(2, (-1)), (17, 1)]), (1, [(2, (-1)), (17, 1)]), (1, [(18, (-1))]), ((-98), [(18, 1)]), (98, [(18, (-1))]), (0, [(7, 1)]), (0, [(7, (-1))]), (1, [(17, 1), (19, (-1))]), (0, [(2, (-1)), (19, 1)]), (0, [(16, 1), (20, (-1))]), (0, [(16, (-1)), (20, 1)]), (1, [(19, 1), (20, 1)]), ((-1), [(2, (-1)), (20, (-1))])], [])
noncomputable def rIT1c_18 : sX := (none, [(500, (1, [(17, 1)]), (0, [(19, 1)])), (542, (0, [(19, 1)]), (0, [(20, 1)])), (543, (0, [(19, 1)]), (0, [(21, 1)])), (531, (8, [(4, 1), (5, 2), (6, 4), (7, 8), (20, 16)]), (0, [(16, 1)])), (563, (800, [(4, 100), (5, 200), (6, 400), (7, 800), (8, 1), (20, 1600)]), (0, [(12, 1)])), (564, (800, [(4, 100), (5, 200), (6, 400), (7, 800), (9, 1), (20, 1600)]), (0, [(13, 1)])), (565, (800, [(4, 100), (5, 200), (6, 400), (7, 800), (10, 1), (20, 1600)]), (0, [(14, 1)])), (566, (800, [(4, 100), (5, 200), (6, 400), (7, 800), (20, 1600), (21, 1)]), (0, [(15, 1)]))], [(0, 240), (0, 240), (0, 99)], [(0, [(3, 1), (17, (-1))]), (0, [(2, (-1)), (17, 1)]), (1, [(2, (-1)), (17, 1)]), (1, [(18, (-1))]), ((-98), [(18, 1)]), (98, [(18, (-1))]), (0, [(7, 1)]), (0, [(7, (-1))]), (1, [(17, 1), (19, (-1))]), (0, [(2, (-1)), (19, 1)]), (1, [(19, 1), (20, (-1))]), (0, [(2, (-1)), (20, 1)]), (0, [(21, (-1))]), ((-9), [(21, 1)])], [])
noncomputable def rIT1c_19 : sX := (none, [(500, (1, [(17, 1)]), (0, [(19, 1)])), (542, (0, [(19, 1)]), (0, [(20, 1)])), (543, (0, [(19, 1)]), (0, [(21, 1)]))], [(0, 240), (0, 240), (0, 99)], [(0, [(3, 1), (17, (-1))]), (0, [(2, (-1)), (17, 1)]), (1, [(2, (-1)), (17, 1)]), (1, [(18, (-1))]), ((-98), [(18, 1)]), (98, [(18, (-1))]), (0, [(7, 1)]), (0, [(7, (-1))]), (1, [(17, 1), (19, (-1))]), (0, [(2, (-1)), (19, 1)]), (1, [(19, 1), (20, (-1))]), (0, [(2, (-1)), (20, 1)]), (10, [(21, (-1))]), (0, [(16, 1), (20, 1)]), (0, [(16, (-1)), (20, (-1))])], [])
noncomputable def rIT1c (R : Nat) : sQ := (0, ([], [(2, 1000, (0, [])), (2, 1020, (0, [])), (2, 41, (1, [])), (2, 41, (2, [])), (2, 45, (0, [])), (2, 45, (1, [])), (2, 45, (2, [])), (2, 45, (3, [])), (2, R, (0, [])), (2, R, (1, [])), (2, R, (2, [])), (2, R, (3, [])), (2, 563, (0, [(3, 1600), (4, 100), (5, 200), (6, 400), (7, 800), (8, 1)])), (2, 564, (0, [(3, 1600), (4, 100), (5, 200), (6, 400), (7, 800), (9, 1)])), (2, 565, (0, [(3, 1600), (4, 100), (5, 200), (6, 400), (7, 800), (10, 1)])), (2, 566, (0, [(3, 1600), (4, 100), (5, 200), (6, 400), (7, 800), (11, 1)])), (2, 531, (0, [(3, 16), (4, 1), (5, 2), (6, 4), (7, 8)])), (2, 500, (0, [(3, 1)])), (2, 501, (0, [(17, 1)]))], [(1, 1), (1, 1), (0, 240), (0, 240), (0, 1), (0, 1), (0, 1), (0, 1), (0, 99), (0, 99), (0, 99), (0, 99), (0, 99), (0, 99), (0, 99), (0, 99), ((-241), 240), (0, 240), (0, 255)], [(0, [(2, (-1)), (3, 1)])], [(0, 0), (1, 1), (2, 2), (3, 3), (4, 4), (5, 5), (6, 6), (7, 7), (8, 8), (9, 9), (10, 10), (11, 11), (12, 12), (13, 13), (14, 14), (15, 15), (16, 16), (17, 17), (18, 18)], (0, [])), [rIT1c_0, rIT1c_1, rIT1c_2, rIT1c_3, rIT1c_4, rIT1c_5, rIT1c_6, rIT1c_7, rIT1c_8, rIT1c_9, rIT1c_10, rIT1c_11, rIT1c_12, rIT1c_13, rIT1c_14, rIT1c_15, rIT1c_16, rIT1c_17, rIT1c_18, rIT1c_19], [], 0)
set_option maxHeartbeats 8000000 in
theorem rIT1c_ok (R : Nat) : pRul pReg pG pgv (rIT1c R) := by
  intro loc h ρ ρ0 hG hM
  have hM : sMt pReg pgv ρ ρ0 (sAs (rIT1c R).2.1) loc [] h := hM
  have q0 : ρ0 1 = ρ 0 := (hM.2.2.2.2.2 (1, sY 0) (List.mem_of_getElem? (i := 1) rfl)).trans (sY_v ρ 0)
  have q1 : ρ0 2 = ρ 1 := (hM.2.2.2.2.2 (2, sY 1) (List.mem_of_getElem? (i := 2) rfl)).trans (sY_v ρ 1)
  have q2 : ρ0 3 = ρ 2 := (hM.2.2.2.2.2 (3, sY 2) (List.mem_of_getElem? (i := 3) rfl)).trans (sY_v ρ 2)
  have q3 : ρ0 4 = ρ 3 := (hM.2.2.2.2.2 (4, sY 3) (List.mem_of_getElem? (i := 4) rfl)).trans (sY_v ρ 3)
  have q4 : ρ0 5 = ρ 4 := (hM.2.2.2.2.2 (5, sY 4) (List.mem_of_getElem? (i := 5) rfl)).trans (sY_v ρ 4)
  have q5 : ρ0 6 = ρ 5 := (hM.2.2.2.2.2 (6, sY 5) (List.mem_of_getElem? (i := 6) rfl)).trans (sY_v ρ 5)
  have q6 : ρ0 7 = ρ 6 := (hM.2.2.2.2.2 (7, sY 6) (List.mem_of_getElem? (i := 7) rfl)).trans (sY_v ρ 6)
  have q7 : ρ0 8 = ρ 7 := (hM.2.2.2.2.2 (8, sY 7) (List.mem_of_getElem? (i := 8) rfl)).trans (sY_v ρ 7)
  have q8 : ρ0 9 = ρ 8 := (hM.2.2.2.2.2 (9, sY 8) (List.mem_of_getElem? (i := 9) rfl)).trans (sY_v ρ 8)
  have q9 : ρ0 10 = ρ 9 := (hM.2.2.2.2.2 (10, sY 9) (List.mem_of_getElem? (i := 10) rfl)).trans (sY_v ρ 9)
  have q10 : ρ0 11 = ρ 10 := (hM.2.2.2.2.2 (11, sY 10) (List.mem_of_getElem? (i := 11) rfl)).trans (sY_v ρ 10)
  have q11 : ρ0 12 = ρ 11 := (hM.2.2.2.2.2 (12, sY 11) (List.mem_of_getElem? (i := 12) rfl)).trans (sY_v ρ 11)
  have q12 : ρ0 13 = ρ 12 := (hM.2.2.2.2.2 (13, sY 12) (List.mem_of_getElem? (i := 13) rfl)).trans (sY_v ρ 12)
  have q13 : ρ0 14 = ρ 13 := (hM.2.2.2.2.2 (14, sY 13) (List.mem_of_getElem? (i := 14) rfl)).trans (sY_v ρ 13)
  have q14 : ρ0 15 = ρ 14 := (hM.2.2.2.2.2 (15, sY 14) (List.mem_of_getElem? (i := 15) rfl)).trans (sY_v ρ 14)
  have q15 : ρ0 16 = ρ 15 := (hM.2.2.2.2.2 (16, sY 15) (List.mem_of_getElem? (i := 16) rfl)).trans (sY_v ρ 15)
  have q16 : ρ0 17 = ρ 16 := (hM.2.2.2.2.2 (17, sY 16) (List.mem_of_getElem? (i := 17) rfl)).trans (sY_v ρ 16)
  have q17 : ρ0 18 = ρ 17 := (hM.2.2.2.2.2 (18, sY 17) (List.mem_of_getElem? (i := 18) rfl)).trans (sY_v ρ 17)
  have q18 : ρ0 19 = ρ 18 := (hM.2.2.2.2.2 (19, sY 18) (List.mem_of_getElem? (i := 19) rfl)).trans (sY_v ρ 18)
  have hL : ∀ j, j < 19 → pL [ρ 0, ρ 1, ρ 2, ρ 3, ρ 4, ρ 5, ρ 6, ρ 7, ρ 8, ρ 9, ρ 10, ρ 11, ρ 12, ρ 13, ρ 14, ρ 15, ρ 16, ρ 17, ρ 18] j = ρ0 (j + 1) := by
    intro j hj
    match j, hj with
    | 0, _ => exact q0.symm
    | 1, _ => exact q1.symm
    | 2, _ => exact q2.symm
    | 3, _ => exact q3.symm
    | 4, _ => exact q4.symm
    | 5, _ => exact q5.symm
    | 6, _ => exact q6.symm
    | 7, _ => exact q7.symm
    | 8, _ => exact q8.symm
    | 9, _ => exact q9.symm
    | 10, _ => exact q10.symm
    | 11, _ => exact q11.symm
    | 12, _ => exact q12.symm
    | 13, _ => exact q13.symm
    | 14, _ => exact q14.symm
    | 15, _ => exact q15.symm
    | 16, _ => exact q16.symm
    | 17, _ => exact q17.symm
    | 18, _ => exact q18.symm
    | k + 19, hj => omega
  have b0 : (1 : Int) ≤ ρ 0 ∧ ρ 0 ≤ 1 := hM.2.2.2.1 0 (1, 1) rfl
  have b1 : (1 : Int) ≤ ρ 1 ∧ ρ 1 ≤ 1 := hM.2.2.2.1 1 (1, 1) rfl
  have b2 : (0 : Int) ≤ ρ 2 ∧ ρ 2 ≤ 240 := hM.2.2.2.1 2 (0, 240) rfl
  have b3 : (0 : Int) ≤ ρ 3 ∧ ρ 3 ≤ 240 := hM.2.2.2.1 3 (0, 240) rfl
  have b4 : (0 : Int) ≤ ρ 4 ∧ ρ 4 ≤ 1 := hM.2.2.2.1 4 (0, 1) rfl
  have b5 : (0 : Int) ≤ ρ 5 ∧ ρ 5 ≤ 1 := hM.2.2.2.1 5 (0, 1) rfl
  have b6 : (0 : Int) ≤ ρ 6 ∧ ρ 6 ≤ 1 := hM.2.2.2.1 6 (0, 1) rfl
  have b7 : (0 : Int) ≤ ρ 7 ∧ ρ 7 ≤ 1 := hM.2.2.2.1 7 (0, 1) rfl
  have b8 : (0 : Int) ≤ ρ 8 ∧ ρ 8 ≤ 99 := hM.2.2.2.1 8 (0, 99) rfl
  have b9 : (0 : Int) ≤ ρ 9 ∧ ρ 9 ≤ 99 := hM.2.2.2.1 9 (0, 99) rfl
  have b10 : (0 : Int) ≤ ρ 10 ∧ ρ 10 ≤ 99 := hM.2.2.2.1 10 (0, 99) rfl
  have b11 : (0 : Int) ≤ ρ 11 ∧ ρ 11 ≤ 99 := hM.2.2.2.1 11 (0, 99) rfl
  have b12 : (0 : Int) ≤ ρ 12 ∧ ρ 12 ≤ 99 := hM.2.2.2.1 12 (0, 99) rfl
  have b13 : (0 : Int) ≤ ρ 13 ∧ ρ 13 ≤ 99 := hM.2.2.2.1 13 (0, 99) rfl
  have b14 : (0 : Int) ≤ ρ 14 ∧ ρ 14 ≤ 99 := hM.2.2.2.1 14 (0, 99) rfl
  have b15 : (0 : Int) ≤ ρ 15 ∧ ρ 15 ≤ 99 := hM.2.2.2.1 15 (0, 99) rfl
  have b16 : ((-241) : Int) ≤ ρ 16 ∧ ρ 16 ≤ 240 := hM.2.2.2.1 16 ((-241), 240) rfl
  have b17 : (0 : Int) ≤ ρ 17 ∧ ρ 17 ≤ 240 := hM.2.2.2.1 17 (0, 240) rfl
  have b18 : (0 : Int) ≤ ρ 18 ∧ ρ 18 ≤ 255 := hM.2.2.2.1 18 (0, 255) rfl
  have c0 : (0 + ((-1) * ρ 2 + (1 * ρ 3 + 0)) : Int) ≤ 0 := hM.2.2.2.2.1 (0, [(2, (-1)), (3, 1)]) (List.mem_of_getElem? (i := 0) rfl)
  obtain ⟨ho, hs, hh⟩ := pTold0 hM 0 (0, []) rfl b0.1
  have hn := ho.1
  obtain ⟨-, -, hf⟩ := pTold20 hM 1 (0, []) rfl b1.1
  have en : ρ 2 = (wN h : Int) := (pPl hM 2 41 (1, []) rfl (by omega) 353 1 (by decide +kernel) rfl).symm.trans hs.1
  obtain ⟨p, ep⟩ : ∃ p : Nat, ρ 3 = (p : Int) := ⟨(ρ 3).toNat, by omega⟩
  have hp : p ≤ wN h := by omega
  obtain ⟨s1, s2⟩ := wSk_le (B := wB h) hp
  obtain ⟨g0, eg0⟩ : ∃ g0 : Nat, ρ 4 = (g0 : Int) := ⟨(ρ 4).toNat, by omega⟩
  obtain ⟨g1, eg1⟩ : ∃ g1 : Nat, ρ 5 = (g1 : Int) := ⟨(ρ 5).toNat, by omega⟩
  obtain ⟨g2, eg2⟩ : ∃ g2 : Nat, ρ 6 = (g2 : Int) := ⟨(ρ 6).toNat, by omega⟩
  obtain ⟨g3, eg3⟩ : ∃ g3 : Nat, ρ 7 = (g3 : Int) := ⟨(ρ 7).toNat, by omega⟩
  obtain ⟨g, hgd⟩ : ∃ g : Nat, g = g0 + 2 * g1 + 4 * g2 + 8 * g3 := ⟨_, rfl⟩
  have hg : g < 16 := by omega
  have hb0 : (fBt g 0 : Int) = ρ 4 := by
    show ((g % 2 : Nat) : Int) = _
    omega
  have hb1 : (fBt g 1 : Int) = ρ 5 := by
    show ((g / 2 % 2 : Nat) : Int) = _
    omega
  have hb2 : (fBt g 2 : Int) = ρ 6 := by
    show ((g / 4 % 2 : Nat) : Int) = _
    omega
  have hb3 : (fBt g 3 : Int) = ρ 7 := by
    show ((g / 8 % 2 : Nat) : Int) = _
    omega
  obtain ⟨v0, ev0⟩ : ∃ v0 : Nat, ρ 8 = (v0 : Int) := ⟨(ρ 8).toNat, by omega⟩
  obtain ⟨v1, ev1⟩ : ∃ v1 : Nat, ρ 9 = (v1 : Int) := ⟨(ρ 9).toNat, by omega⟩
  obtain ⟨v2, ev2⟩ : ∃ v2 : Nat, ρ 10 = (v2 : Int) := ⟨(ρ 10).toNat, by omega⟩
  obtain ⟨v3, ev3⟩ : ∃ v3 : Nat, ρ 11 = (v3 : Int) := ⟨(ρ 11).toNat, by omega⟩
  have er : ρ 16 = (fI (wN h) (wB h) 1 (g) (p)) := (pfF hM hf 16 531 (0, [(3, 16), (4, 1), (5, 2), (6, 4), (7, 8)]) rfl (by decide) (by decide) (16 * p + g) (by omega) (by show (0 + (16 * ρ 3 + (1 * ρ 4 + (2 * ρ 5 + (4 * ρ 6 + (8 * ρ 7 + 0))))) : Int) = _; omega)).trans (fA_IT1 hg hp hn)
  have ef0 : ρ 12 = (fV (wN h) (wB h) 1 0 (g) (p) (v0 : Int)) := (pfF hM hf 12 563 (0, [(3, 1600), (4, 100), (5, 200), (6, 400), (7, 800), (8, 1)]) rfl (by decide) (by decide) (1600 * p + 100 * g + v0) (by omega) (by show (0 + (1600 * ρ 3 + (100 * ρ 4 + (200 * ρ 5 + (400 * ρ 6 + (800 * ρ 7 + (1 * ρ 8 + 0)))))) : Int) = _; omega)).trans (fA_I (s := 1) (j := 0) (r := 563) (Or.inr ⟨rfl, rfl, by decide⟩) hg hp (by omega))
  have ef1 : ρ 13 = (fV (wN h) (wB h) 1 1 (g) (p) (v1 : Int)) := (pfF hM hf 13 564 (0, [(3, 1600), (4, 100), (5, 200), (6, 400), (7, 800), (9, 1)]) rfl (by decide) (by decide) (1600 * p + 100 * g + v1) (by omega) (by show (0 + (1600 * ρ 3 + (100 * ρ 4 + (200 * ρ 5 + (400 * ρ 6 + (800 * ρ 7 + (1 * ρ 9 + 0)))))) : Int) = _; omega)).trans (fA_I (s := 1) (j := 1) (r := 564) (Or.inr ⟨rfl, rfl, by decide⟩) hg hp (by omega))
  have ef2 : ρ 14 = (fV (wN h) (wB h) 1 2 (g) (p) (v2 : Int)) := (pfF hM hf 14 565 (0, [(3, 1600), (4, 100), (5, 200), (6, 400), (7, 800), (10, 1)]) rfl (by decide) (by decide) (1600 * p + 100 * g + v2) (by omega) (by show (0 + (1600 * ρ 3 + (100 * ρ 4 + (200 * ρ 5 + (400 * ρ 6 + (800 * ρ 7 + (1 * ρ 10 + 0)))))) : Int) = _; omega)).trans (fA_I (s := 1) (j := 2) (r := 565) (Or.inr ⟨rfl, rfl, by decide⟩) hg hp (by omega))
  have ef3 : ρ 15 = (fV (wN h) (wB h) 1 3 (g) (p) (v3 : Int)) := (pfF hM hf 15 566 (0, [(3, 1600), (4, 100), (5, 200), (6, 400), (7, 800), (11, 1)]) rfl (by decide) (by decide) (1600 * p + 100 * g + v3) (by omega) (by show (0 + (1600 * ρ 3 + (100 * ρ 4 + (200 * ρ 5 + (400 * ρ 6 + (800 * ρ 7 + (1 * ρ 11 + 0)))))) : Int) = _; omega)).trans (fA_I (s := 1) (j := 3) (r := 566) (Or.inr ⟨rfl, rfl, by decide⟩) hg hp (by omega))
  have eq : ρ 17 = ((wSk (wN h) (wB h) (p)) : Int) := pfS hM ho hh 17 (0, [(3, 1)]) rfl (p := p) (by omega) (by show (0 + (1 * ρ 3 + 0) : Int) = _; omega)
  have ec : ρ 18 = (wCh (wN h) (wB h) ((wSk (wN h) (wB h) (p)))) := pfC hM ho hh 18 (0, [(17, 1)]) rfl (p := (wSk (wN h) (wB h) (p))) (by omega) (by show (0 + (1 * ρ 17 + 0) : Int) = _; omega)
  have cbc := wCh_bd ho ((wSk (wN h) (wB h) (p)))
  have clc : (wCh (wN h) (wB h) ((wSk (wN h) (wB h) (p)))) ≠ 0 → (wSk (wN h) (wB h) (p)) < wN h := wCh_lt
  rcases fI_cs (n := wN h) (B := wB h) 1 g p hp hg with ⟨k9, i9, v9⟩ | ⟨k4, hq, hc⟩
  · rcases fIt_1 (c := (wCh (wN h) (wB h) ((wSk (wN h) (wB h) (p))))) (k := 9) k9 with ⟨z, -⟩ | ⟨z, -⟩ | ⟨z, -⟩ | ⟨z, -⟩ | ⟨-, z⟩
    · exact absurd z (by decide)
    · exact absurd z (by decide)
    · exact absurd z (by decide)
    · exact absurd z (by decide)
    · rw [i9] at er
      rw [v9] at ef0
      rw [v9] at ef1
      rw [v9] at ef2
      rw [v9] at ef3
      have hu : (wCh (wN h) (wB h) ((wSk (wN h) (wB h) (p)))) ≤ 97 ∨ (99 ≤ (wCh (wN h) (wB h) ((wSk (wN h) (wB h) (p)))) ∧ (wCh (wN h) (wB h) ((wSk (wN h) (wB h) (p)))) ≤ 99) ∨ (102 ≤ (wCh (wN h) (wB h) ((wSk (wN h) (wB h) (p)))) ∧ (wCh (wN h) (wB h) ((wSk (wN h) (wB h) (p)))) ≤ 109) ∨ 111 ≤ (wCh (wN h) (wB h) ((wSk (wN h) (wB h) (p)))) := by omega
      rcases hu with hu | hu | hu | hu
      · refine ⟨rIT1c_0, List.mem_of_getElem? (i := 0) rfl, pEnd [ρ 0, ρ 1, ρ 2, ρ 3, ρ 4, ρ 5, ρ 6, ρ 7, ρ 8, ρ 9, ρ 10, ρ 11, ρ 12, ρ 13, ρ 14, ρ 15, ρ 16, ρ 17, ρ 18] rfl ?_ ?_ ?_ ?_⟩
        · exact hL
        · intro k b hk
          cases hk
        · exact pAll1 (show (0 + (1 * ρ 3 + ((-1) * ρ 17 + 0)) : Int) ≤ 0 by omega) (pAll1 (show (0 + ((-1) * ρ 2 + (1 * ρ 17 + 0)) : Int) ≤ 0 by omega) (pAll1 (show ((-97) + (1 * ρ 18 + 0) : Int) ≤ 0 by omega) (pAll1 (show (0 + (1 * ρ 16 + ((-1) * ρ 17 + 0)) : Int) ≤ 0 by omega) (pAll1 (show (0 + ((-1) * ρ 16 + (1 * ρ 17 + 0)) : Int) ≤ 0 by omega) (pAll1 (show (0 + ((-1) * ρ 8 + (1 * ρ 12 + 0)) : Int) ≤ 0 by omega) (pAll1 (show (0 + (1 * ρ 8 + ((-1) * ρ 12 + 0)) : Int) ≤ 0 by omega) (pAll1 (show (0 + ((-1) * ρ 9 + (1 * ρ 13 + 0)) : Int) ≤ 0 by omega) (pAll1 (show (0 + (1 * ρ 9 + ((-1) * ρ 13 + 0)) : Int) ≤ 0 by omega) (pAll1 (show (0 + ((-1) * ρ 10 + (1 * ρ 14 + 0)) : Int) ≤ 0 by omega) (pAll1 (show (0 + (1 * ρ 10 + ((-1) * ρ 14 + 0)) : Int) ≤ 0 by omega) (pAll1 (show (0 + ((-1) * ρ 11 + (1 * ρ 15 + 0)) : Int) ≤ 0 by omega) (pAll1 (show (0 + (1 * ρ 11 + ((-1) * ρ 15 + 0)) : Int) ≤ 0 by omega) (pAll0)))))))))))))
        · exact pAll0
      · refine ⟨rIT1c_1, List.mem_of_getElem? (i := 1) rfl, pEnd [ρ 0, ρ 1, ρ 2, ρ 3, ρ 4, ρ 5, ρ 6, ρ 7, ρ 8, ρ 9, ρ 10, ρ 11, ρ 12, ρ 13, ρ 14, ρ 15, ρ 16, ρ 17, ρ 18] rfl ?_ ?_ ?_ ?_⟩
        · exact hL
        · intro k b hk
          cases hk
        · exact pAll1 (show (0 + (1 * ρ 3 + ((-1) * ρ 17 + 0)) : Int) ≤ 0 by omega) (pAll1 (show (0 + ((-1) * ρ 2 + (1 * ρ 17 + 0)) : Int) ≤ 0 by omega) (pAll1 (show (99 + ((-1) * ρ 18 + 0) : Int) ≤ 0 by omega) (pAll1 (show ((-99) + (1 * ρ 18 + 0) : Int) ≤ 0 by omega) (pAll1 (show (0 + (1 * ρ 16 + ((-1) * ρ 17 + 0)) : Int) ≤ 0 by omega) (pAll1 (show (0 + ((-1) * ρ 16 + (1 * ρ 17 + 0)) : Int) ≤ 0 by omega) (pAll1 (show (0 + ((-1) * ρ 8 + (1 * ρ 12 + 0)) : Int) ≤ 0 by omega) (pAll1 (show (0 + (1 * ρ 8 + ((-1) * ρ 12 + 0)) : Int) ≤ 0 by omega) (pAll1 (show (0 + ((-1) * ρ 9 + (1 * ρ 13 + 0)) : Int) ≤ 0 by omega) (pAll1 (show (0 + (1 * ρ 9 + ((-1) * ρ 13 + 0)) : Int) ≤ 0 by omega) (pAll1 (show (0 + ((-1) * ρ 10 + (1 * ρ 14 + 0)) : Int) ≤ 0 by omega) (pAll1 (show (0 + (1 * ρ 10 + ((-1) * ρ 14 + 0)) : Int) ≤ 0 by omega) (pAll1 (show (0 + ((-1) * ρ 11 + (1 * ρ 15 + 0)) : Int) ≤ 0 by omega) (pAll1 (show (0 + (1 * ρ 11 + ((-1) * ρ 15 + 0)) : Int) ≤ 0 by omega) (pAll0))))))))))))))
        · exact pAll0
      · refine ⟨rIT1c_2, List.mem_of_getElem? (i := 2) rfl, pEnd [ρ 0, ρ 1, ρ 2, ρ 3, ρ 4, ρ 5, ρ 6, ρ 7, ρ 8, ρ 9, ρ 10, ρ 11, ρ 12, ρ 13, ρ 14, ρ 15, ρ 16, ρ 17, ρ 18] rfl ?_ ?_ ?_ ?_⟩
        · exact hL
        · intro k b hk
          cases hk
        · exact pAll1 (show (0 + (1 * ρ 3 + ((-1) * ρ 17 + 0)) : Int) ≤ 0 by omega) (pAll1 (show (0 + ((-1) * ρ 2 + (1 * ρ 17 + 0)) : Int) ≤ 0 by omega) (pAll1 (show (102 + ((-1) * ρ 18 + 0) : Int) ≤ 0 by omega) (pAll1 (show ((-109) + (1 * ρ 18 + 0) : Int) ≤ 0 by omega) (pAll1 (show (0 + (1 * ρ 16 + ((-1) * ρ 17 + 0)) : Int) ≤ 0 by omega) (pAll1 (show (0 + ((-1) * ρ 16 + (1 * ρ 17 + 0)) : Int) ≤ 0 by omega) (pAll1 (show (0 + ((-1) * ρ 8 + (1 * ρ 12 + 0)) : Int) ≤ 0 by omega) (pAll1 (show (0 + (1 * ρ 8 + ((-1) * ρ 12 + 0)) : Int) ≤ 0 by omega) (pAll1 (show (0 + ((-1) * ρ 9 + (1 * ρ 13 + 0)) : Int) ≤ 0 by omega) (pAll1 (show (0 + (1 * ρ 9 + ((-1) * ρ 13 + 0)) : Int) ≤ 0 by omega) (pAll1 (show (0 + ((-1) * ρ 10 + (1 * ρ 14 + 0)) : Int) ≤ 0 by omega) (pAll1 (show (0 + (1 * ρ 10 + ((-1) * ρ 14 + 0)) : Int) ≤ 0 by omega) (pAll1 (show (0 + ((-1) * ρ 11 + (1 * ρ 15 + 0)) : Int) ≤ 0 by omega) (pAll1 (show (0 + (1 * ρ 11 + ((-1) * ρ 15 + 0)) : Int) ≤ 0 by omega) (pAll0))))))))))))))
        · exact pAll0
      · refine ⟨rIT1c_3, List.mem_of_getElem? (i := 3) rfl, pEnd [ρ 0, ρ 1, ρ 2, ρ 3, ρ 4, ρ 5, ρ 6, ρ 7, ρ 8, ρ 9, ρ 10, ρ 11, ρ 12, ρ 13, ρ 14, ρ 15, ρ 16, ρ 17, ρ 18] rfl ?_ ?_ ?_ ?_⟩
        · exact hL
        · intro k b hk
          cases hk
        · exact pAll1 (show (0 + (1 * ρ 3 + ((-1) * ρ 17 + 0)) : Int) ≤ 0 by omega) (pAll1 (show (0 + ((-1) * ρ 2 + (1 * ρ 17 + 0)) : Int) ≤ 0 by omega) (pAll1 (show (111 + ((-1) * ρ 18 + 0) : Int) ≤ 0 by omega) (pAll1 (show (0 + (1 * ρ 16 + ((-1) * ρ 17 + 0)) : Int) ≤ 0 by omega) (pAll1 (show (0 + ((-1) * ρ 16 + (1 * ρ 17 + 0)) : Int) ≤ 0 by omega) (pAll1 (show (0 + ((-1) * ρ 8 + (1 * ρ 12 + 0)) : Int) ≤ 0 by omega) (pAll1 (show (0 + (1 * ρ 8 + ((-1) * ρ 12 + 0)) : Int) ≤ 0 by omega) (pAll1 (show (0 + ((-1) * ρ 9 + (1 * ρ 13 + 0)) : Int) ≤ 0 by omega) (pAll1 (show (0 + (1 * ρ 9 + ((-1) * ρ 13 + 0)) : Int) ≤ 0 by omega) (pAll1 (show (0 + ((-1) * ρ 10 + (1 * ρ 14 + 0)) : Int) ≤ 0 by omega) (pAll1 (show (0 + (1 * ρ 10 + ((-1) * ρ 14 + 0)) : Int) ≤ 0 by omega) (pAll1 (show (0 + ((-1) * ρ 11 + (1 * ρ 15 + 0)) : Int) ≤ 0 by omega) (pAll1 (show (0 + (1 * ρ 11 + ((-1) * ρ 15 + 0)) : Int) ≤ 0 by omega) (pAll0)))))))))))))
        · exact pAll0
  · obtain ⟨k, ek⟩ : ∃ k, fK (wN h) (wB h) 1 p = k := ⟨_, rfl⟩
    rw [ek] at k4 hc
    rcases fIt_1 (c := (wCh (wN h) (wB h) ((wSk (wN h) (wB h) (p))))) (k := k) ek with ⟨rfl, z⟩ | ⟨rfl, z⟩ | ⟨rfl, z⟩ | ⟨rfl, z⟩ | ⟨rfl, -⟩
    · rcases hc with ⟨c8, c9⟩ | ⟨c8, c9, d0, d⟩
      · rw [c9] at er
        unfold wFl at er
        rw [c8] at hb0
        refine ⟨rIT1c_4, List.mem_of_getElem? (i := 4) rfl, pEnd [ρ 0, ρ 1, ρ 2, ρ 3, ρ 4, ρ 5, ρ 6, ρ 7, ρ 8, ρ 9, ρ 10, ρ 11, ρ 12, ρ 13, ρ 14, ρ 15, ρ 16, ρ 17, ρ 18] rfl ?_ ?_ ?_ ?_⟩
        · exact hL
        · intro k b hk
          cases hk
        · exact pAll1 (show (0 + (1 * ρ 3 + ((-1) * ρ 17 + 0)) : Int) ≤ 0 by omega) (pAll1 (show (0 + ((-1) * ρ 2 + (1 * ρ 17 + 0)) : Int) ≤ 0 by omega) (pAll1 (show (1 + ((-1) * ρ 2 + (1 * ρ 17 + 0)) : Int) ≤ 0 by omega) (pAll1 (show (1 + ((-1) * ρ 18 + 0) : Int) ≤ 0 by omega) (pAll1 (show ((-110) + (1 * ρ 18 + 0) : Int) ≤ 0 by omega) (pAll1 (show (110 + ((-1) * ρ 18 + 0) : Int) ≤ 0 by omega) (pAll1 (show ((-1) + (1 * ρ 4 + 0) : Int) ≤ 0 by omega) (pAll1 (show (1 + ((-1) * ρ 4 + 0) : Int) ≤ 0 by omega) (pAll1 (show (1 + (1 * ρ 16 + (1 * ρ 17 + 0)) : Int) ≤ 0 by omega) (pAll1 (show ((-1) + ((-1) * ρ 16 + ((-1) * ρ 17 + 0)) : Int) ≤ 0 by omega) (pAll0))))))))))
        · exact pAll0
      · rw [c8] at hb0
        have c9 : (wSk (wN h) (wB h) (p)) + 1 ≤ (wSk (wN h) (wB h) ((wSk (wN h) (wB h) (p)) + 1)) := c9
        have d0 : (wSk (wN h) (wB h) ((wSk (wN h) (wB h) (p)) + 1)) ≤ wN h := d0
        rcases d with ⟨d1, d2, d3, d4⟩ | ⟨e, d1, d2, d3, d4, d5, d6⟩
        · have d1 : (fNr (wN h) (wB h) (wSk (wN h) (wB h) ((wSk (wN h) (wB h) (p)) + 1))) < 0 := d1
          have d2 : (fI (wN h) (wB h) 1 (g) (p)) = (fNr (wN h) (wB h) (wSk (wN h) (wB h) ((wSk (wN h) (wB h) (p)) + 1))) := d2
          have d3 : ((wSk (wN h) (wB h) ((wSk (wN h) (wB h) (p)) + 1)) : Int) ≤ -(fNr (wN h) (wB h) (wSk (wN h) (wB h) ((wSk (wN h) (wB h) (p)) + 1))) - 1 := d3
          have d4 : -(fNr (wN h) (wB h) (wSk (wN h) (wB h) ((wSk (wN h) (wB h) (p)) + 1))) - 1 ≤ (wN h : Int) := d4
          rw [d2] at er
          refine ⟨rIT1c_5, List.mem_of_getElem? (i := 5) rfl, pEnd [ρ 0, ρ 1, ρ 2, ρ 3, ρ 4, ρ 5, ρ 6, ρ 7, ρ 8, ρ 9, ρ 10, ρ 11, ρ 12, ρ 13, ρ 14, ρ 15, ρ 16, ρ 17, ρ 18, ((wSk (wN h) (wB h) ((wSk (wN h) (wB h) (p)) + 1)) : Int), (fNr (wN h) (wB h) (wSk (wN h) (wB h) ((wSk (wN h) (wB h) (p)) + 1)))] rfl ?_ ?_ ?_ ?_⟩
          · intro j hj
            match j, hj with
            | 0, _ => exact q0.symm
            | 1, _ => exact q1.symm
            | 2, _ => exact q2.symm
            | 3, _ => exact q3.symm
            | 4, _ => exact q4.symm
            | 5, _ => exact q5.symm
            | 6, _ => exact q6.symm
            | 7, _ => exact q7.symm
            | 8, _ => exact q8.symm
            | 9, _ => exact q9.symm
            | 10, _ => exact q10.symm
            | 11, _ => exact q11.symm
            | 12, _ => exact q12.symm
            | 13, _ => exact q13.symm
            | 14, _ => exact q14.symm
            | 15, _ => exact q15.symm
            | 16, _ => exact q16.symm
            | 17, _ => exact q17.symm
            | 18, _ => exact q18.symm
            | k + 19, hj => exact absurd hj (by show ¬ (k + 19 < 19); omega)
          · intro k b hk
            match k, hk with
            | 0, hk => cases hk; exact (show (0 : Int) ≤ ((wSk (wN h) (wB h) ((wSk (wN h) (wB h) (p)) + 1)) : Int) ∧ ((wSk (wN h) (wB h) ((wSk (wN h) (wB h) (p)) + 1)) : Int) ≤ (240 : Int) by omega)
            | 1, hk => cases hk; exact (show ((-241) : Int) ≤ (fNr (wN h) (wB h) (wSk (wN h) (wB h) ((wSk (wN h) (wB h) (p)) + 1))) ∧ (fNr (wN h) (wB h) (wSk (wN h) (wB h) ((wSk (wN h) (wB h) (p)) + 1))) ≤ ((-1) : Int) by omega)
            | k + 2, hk => cases hk
          · exact pAll1 (show (0 + (1 * ρ 3 + ((-1) * ρ 17 + 0)) : Int) ≤ 0 by omega) (pAll1 (show (0 + ((-1) * ρ 2 + (1 * ρ 17 + 0)) : Int) ≤ 0 by omega) (pAll1 (show (1 + ((-1) * ρ 2 + (1 * ρ 17 + 0)) : Int) ≤ 0 by omega) (pAll1 (show (1 + ((-1) * ρ 18 + 0) : Int) ≤ 0 by omega) (pAll1 (show ((-110) + (1 * ρ 18 + 0) : Int) ≤ 0 by omega) (pAll1 (show (110 + ((-1) * ρ 18 + 0) : Int) ≤ 0 by omega) (pAll1 (show (0 + (1 * ρ 4 + 0) : Int) ≤ 0 by omega) (pAll1 (show (0 + ((-1) * ρ 4 + 0) : Int) ≤ 0 by omega) (pAll1 (show (1 + (1 * ρ 17 + ((-1) * ((wSk (wN h) (wB h) ((wSk (wN h) (wB h) (p)) + 1)) : Int) + 0)) : Int) ≤ 0 by omega) (pAll1 (show (0 + ((-1) * ρ 2 + (1 * ((wSk (wN h) (wB h) ((wSk (wN h) (wB h) (p)) + 1)) : Int) + 0)) : Int) ≤ 0 by omega) (pAll1 (show (0 + (1 * ρ 16 + ((-1) * (fNr (wN h) (wB h) (wSk (wN h) (wB h) ((wSk (wN h) (wB h) (p)) + 1))) + 0)) : Int) ≤ 0 by omega) (pAll1 (show (0 + ((-1) * ρ 16 + (1 * (fNr (wN h) (wB h) (wSk (wN h) (wB h) ((wSk (wN h) (wB h) (p)) + 1))) + 0)) : Int) ≤ 0 by omega) (pAll1 (show (1 + (1 * ((wSk (wN h) (wB h) ((wSk (wN h) (wB h) (p)) + 1)) : Int) + (1 * (fNr (wN h) (wB h) (wSk (wN h) (wB h) ((wSk (wN h) (wB h) (p)) + 1))) + 0)) : Int) ≤ 0 by omega) (pAll1 (show ((-1) + ((-1) * ρ 2 + ((-1) * (fNr (wN h) (wB h) (wSk (wN h) (wB h) ((wSk (wN h) (wB h) (p)) + 1))) + 0)) : Int) ≤ 0 by omega) (pAll0))))))))))))))
          · exact pAll1 (pgS ho hh ((wSk (wN h) (wB h) (p)) + 1) (by omega) (show (1 + (1 * ρ 17 + 0) : Int) = _ by omega) (show (0 + (1 * ((wSk (wN h) (wB h) ((wSk (wN h) (wB h) (p)) + 1)) : Int) + 0) : Int) = _ by omega)) (pAll1 (pgF hf 542 (by decide) (by decide) ((wSk (wN h) (wB h) ((wSk (wN h) (wB h) (p)) + 1))) (by omega) (show (0 + (1 * ((wSk (wN h) (wB h) ((wSk (wN h) (wB h) (p)) + 1)) : Int) + 0) : Int) = _ by omega) (show (0 + (1 * (fNr (wN h) (wB h) (wSk (wN h) (wB h) ((wSk (wN h) (wB h) (p)) + 1))) + 0) : Int) = _ by rw [fA_NR d0 hn]; omega)) (pAll0))
        · have d1 : (fNr (wN h) (wB h) (wSk (wN h) (wB h) ((wSk (wN h) (wB h) (p)) + 1))) = (e : Int) := d1
          have d2 : (wSk (wN h) (wB h) ((wSk (wN h) (wB h) (p)) + 1)) < e := d2
          have d4 : 0 ≤ (fNv (wN h) (wB h) (wSk (wN h) (wB h) ((wSk (wN h) (wB h) (p)) + 1))) := d4
          have d5 : (fNv (wN h) (wB h) (wSk (wN h) (wB h) ((wSk (wN h) (wB h) (p)) + 1))) ≤ 99 := d5
          obtain ⟨w, ew⟩ : ∃ w : Nat, (fNv (wN h) (wB h) (wSk (wN h) (wB h) ((wSk (wN h) (wB h) (p)) + 1))) = (w : Int) := ⟨(fNv (wN h) (wB h) (wSk (wN h) (wB h) ((wSk (wN h) (wB h) (p)) + 1))).toNat, by omega⟩
          have l1 : fLo 1 0 = 0 := rfl
          have l2 : fHi 1 0 = 10 := rfl
          rw [l1, l2] at d6
          rcases d6 with ⟨d7, d8⟩ | ⟨d7, d8, d9, d10, d11⟩
          · rw [d8] at er
            have d7 : (fNv (wN h) (wB h) (wSk (wN h) (wB h) ((wSk (wN h) (wB h) (p)) + 1))) < 0 ∨ 10 < (fNv (wN h) (wB h) (wSk (wN h) (wB h) ((wSk (wN h) (wB h) (p)) + 1))) := d7
            rcases d7 with d7 | d7
            · omega
            · refine ⟨rIT1c_7, List.mem_of_getElem? (i := 7) rfl, pEnd [ρ 0, ρ 1, ρ 2, ρ 3, ρ 4, ρ 5, ρ 6, ρ 7, ρ 8, ρ 9, ρ 10, ρ 11, ρ 12, ρ 13, ρ 14, ρ 15, ρ 16, ρ 17, ρ 18, ((wSk (wN h) (wB h) ((wSk (wN h) (wB h) (p)) + 1)) : Int), (e : Int), (w : Int)] rfl ?_ ?_ ?_ ?_⟩
              · intro j hj
                match j, hj with
                | 0, _ => exact q0.symm
                | 1, _ => exact q1.symm
                | 2, _ => exact q2.symm
                | 3, _ => exact q3.symm
                | 4, _ => exact q4.symm
                | 5, _ => exact q5.symm
                | 6, _ => exact q6.symm
                | 7, _ => exact q7.symm
                | 8, _ => exact q8.symm
                | 9, _ => exact q9.symm
                | 10, _ => exact q10.symm
                | 11, _ => exact q11.symm
                | 12, _ => exact q12.symm
                | 13, _ => exact q13.symm
                | 14, _ => exact q14.symm
                | 15, _ => exact q15.symm
                | 16, _ => exact q16.symm
                | 17, _ => exact q17.symm
                | 18, _ => exact q18.symm
                | k + 19, hj => exact absurd hj (by show ¬ (k + 19 < 19); omega)
              · intro k b hk
                match k, hk with
                | 0, hk => cases hk; exact (show (0 : Int) ≤ ((wSk (wN h) (wB h) ((wSk (wN h) (wB h) (p)) + 1)) : Int) ∧ ((wSk (wN h) (wB h) ((wSk (wN h) (wB h) (p)) + 1)) : Int) ≤ (240 : Int) by omega)
                | 1, hk => cases hk; exact (show (0 : Int) ≤ (e : Int) ∧ (e : Int) ≤ (240 : Int) by omega)
                | 2, hk => cases hk; exact (show (0 : Int) ≤ (w : Int) ∧ (w : Int) ≤ (99 : Int) by omega)
                | k + 3, hk => cases hk
              · exact pAll1 (show (0 + (1 * ρ 3 + ((-1) * ρ 17 + 0)) : Int) ≤ 0 by omega) (pAll1 (show (0 + ((-1) * ρ 2 + (1 * ρ 17 + 0)) : Int) ≤ 0 by omega) (pAll1 (show (1 + ((-1) * ρ 2 + (1 * ρ 17 + 0)) : Int) ≤ 0 by omega) (pAll1 (show (1 + ((-1) * ρ 18 + 0) : Int) ≤ 0 by omega) (pAll1 (show ((-110) + (1 * ρ 18 + 0) : Int) ≤ 0 by omega) (pAll1 (show (110 + ((-1) * ρ 18 + 0) : Int) ≤ 0 by omega) (pAll1 (show (0 + (1 * ρ 4 + 0) : Int) ≤ 0 by omega) (pAll1 (show (0 + ((-1) * ρ 4 + 0) : Int) ≤ 0 by omega) (pAll1 (show (1 + (1 * ρ 17 + ((-1) * ((wSk (wN h) (wB h) ((wSk (wN h) (wB h) (p)) + 1)) : Int) + 0)) : Int) ≤ 0 by omega) (pAll1 (show (0 + ((-1) * ρ 2 + (1 * ((wSk (wN h) (wB h) ((wSk (wN h) (wB h) (p)) + 1)) : Int) + 0)) : Int) ≤ 0 by omega) (pAll1 (show (1 + (1 * ((wSk (wN h) (wB h) ((wSk (wN h) (wB h) (p)) + 1)) : Int) + ((-1) * (e : Int) + 0)) : Int) ≤ 0 by omega) (pAll1 (show (0 + ((-1) * ρ 2 + (1 * (e : Int) + 0)) : Int) ≤ 0 by omega) (pAll1 (show (11 + ((-1) * (w : Int) + 0) : Int) ≤ 0 by omega) (pAll1 (show (0 + (1 * ρ 16 + (1 * (e : Int) + 0)) : Int) ≤ 0 by omega) (pAll1 (show (0 + ((-1) * ρ 16 + ((-1) * (e : Int) + 0)) : Int) ≤ 0 by omega) (pAll0)))))))))))))))
              · exact pAll1 (pgS ho hh ((wSk (wN h) (wB h) (p)) + 1) (by omega) (show (1 + (1 * ρ 17 + 0) : Int) = _ by omega) (show (0 + (1 * ((wSk (wN h) (wB h) ((wSk (wN h) (wB h) (p)) + 1)) : Int) + 0) : Int) = _ by omega)) (pAll1 (pgF hf 542 (by decide) (by decide) ((wSk (wN h) (wB h) ((wSk (wN h) (wB h) (p)) + 1))) (by omega) (show (0 + (1 * ((wSk (wN h) (wB h) ((wSk (wN h) (wB h) (p)) + 1)) : Int) + 0) : Int) = _ by omega) (show (0 + (1 * (e : Int) + 0) : Int) = _ by rw [fA_NR d0 hn]; omega)) (pAll1 (pgF hf 543 (by decide) (by decide) ((wSk (wN h) (wB h) ((wSk (wN h) (wB h) (p)) + 1))) (by omega) (show (0 + (1 * ((wSk (wN h) (wB h) ((wSk (wN h) (wB h) (p)) + 1)) : Int) + 0) : Int) = _ by omega) (show (0 + (1 * (w : Int) + 0) : Int) = _ by rw [fA_NV d4 d5]; omega)) (pAll0)))
          · have d7 : 0 ≤ (fNv (wN h) (wB h) (wSk (wN h) (wB h) ((wSk (wN h) (wB h) (p)) + 1))) := d7
            have d8 : (fNv (wN h) (wB h) (wSk (wN h) (wB h) ((wSk (wN h) (wB h) (p)) + 1))) ≤ 10 := d8
            have d9 : g + 1 < 16 := d9
            have d10 : (fI (wN h) (wB h) 1 (g) (p)) = (fI (wN h) (wB h) 1 (g + 1) (e)) := d10
            rw [d10] at er
            have x0 : (fV (wN h) (wB h) 1 0 (g) (p) (v0 : Int)) = (fV (wN h) (wB h) 1 0 (g + 1) (e) (w : Int)) := by
              have y := d11 0 (v0 : Int)
              rw [if_pos rfl] at y
              have y : (fV (wN h) (wB h) 1 0 (g) (p) (v0 : Int)) = (fV (wN h) (wB h) 1 0 (g + 1) (e) (fNv (wN h) (wB h) (wSk (wN h) (wB h) ((wSk (wN h) (wB h) (p)) + 1)))) := y
              rw [ew] at y
              exact y
            rw [x0] at ef0
            have x1 : (fV (wN h) (wB h) 1 1 (g) (p) (v1 : Int)) = (fV (wN h) (wB h) 1 1 (g + 1) (e) (v1 : Int)) := by
              have y := d11 1 (v1 : Int)
              rw [if_neg (by decide)] at y
              exact y
            rw [x1] at ef1
            have x2 : (fV (wN h) (wB h) 1 2 (g) (p) (v2 : Int)) = (fV (wN h) (wB h) 1 2 (g + 1) (e) (v2 : Int)) := by
              have y := d11 2 (v2 : Int)
              rw [if_neg (by decide)] at y
              exact y
            rw [x2] at ef2
            have x3 : (fV (wN h) (wB h) 1 3 (g) (p) (v3 : Int)) = (fV (wN h) (wB h) 1 3 (g + 1) (e) (v3 : Int)) := by
              have y := d11 3 (v3 : Int)
              rw [if_neg (by decide)] at y
              exact y
            rw [x3] at ef3
            refine ⟨rIT1c_6, List.mem_of_getElem? (i := 6) rfl, pEnd [ρ 0, ρ 1, ρ 2, ρ 3, ρ 4, ρ 5, ρ 6, ρ 7, ρ 8, ρ 9, ρ 10, ρ 11, ρ 12, ρ 13, ρ 14, ρ 15, ρ 16, ρ 17, ρ 18, ((wSk (wN h) (wB h) ((wSk (wN h) (wB h) (p)) + 1)) : Int), (e : Int), (w : Int)] rfl ?_ ?_ ?_ ?_⟩
            · intro j hj
              match j, hj with
              | 0, _ => exact q0.symm
              | 1, _ => exact q1.symm
              | 2, _ => exact q2.symm
              | 3, _ => exact q3.symm
              | 4, _ => exact q4.symm
              | 5, _ => exact q5.symm
              | 6, _ => exact q6.symm
              | 7, _ => exact q7.symm
              | 8, _ => exact q8.symm
              | 9, _ => exact q9.symm
              | 10, _ => exact q10.symm
              | 11, _ => exact q11.symm
              | 12, _ => exact q12.symm
              | 13, _ => exact q13.symm
              | 14, _ => exact q14.symm
              | 15, _ => exact q15.symm
              | 16, _ => exact q16.symm
              | 17, _ => exact q17.symm
              | 18, _ => exact q18.symm
              | k + 19, hj => exact absurd hj (by show ¬ (k + 19 < 19); omega)
            · intro k b hk
              match k, hk with
              | 0, hk => cases hk; exact (show (0 : Int) ≤ ((wSk (wN h) (wB h) ((wSk (wN h) (wB h) (p)) + 1)) : Int) ∧ ((wSk (wN h) (wB h) ((wSk (wN h) (wB h) (p)) + 1)) : Int) ≤ (240 : Int) by omega)
              | 1, hk => cases hk; exact (show (0 : Int) ≤ (e : Int) ∧ (e : Int) ≤ (240 : Int) by omega)
              | 2, hk => cases hk; exact (show (0 : Int) ≤ (w : Int) ∧ (w : Int) ≤ (99 : Int) by omega)
              | k + 3, hk => cases hk
            · exact pAll1 (show (0 + (1 * ρ 3 + ((-1) * ρ 17 + 0)) : Int) ≤ 0 by omega) (pAll1 (show (0 + ((-1) * ρ 2 + (1 * ρ 17 + 0)) : Int) ≤ 0 by omega) (pAll1 (show (1 + ((-1) * ρ 2 + (1 * ρ 17 + 0)) : Int) ≤ 0 by omega) (pAll1 (show (1 + ((-1) * ρ 18 + 0) : Int) ≤ 0 by omega) (pAll1 (show ((-110) + (1 * ρ 18 + 0) : Int) ≤ 0 by omega) (pAll1 (show (110 + ((-1) * ρ 18 + 0) : Int) ≤ 0 by omega) (pAll1 (show (0 + (1 * ρ 4 + 0) : Int) ≤ 0 by omega) (pAll1 (show (0 + ((-1) * ρ 4 + 0) : Int) ≤ 0 by omega) (pAll1 (show (1 + (1 * ρ 17 + ((-1) * ((wSk (wN h) (wB h) ((wSk (wN h) (wB h) (p)) + 1)) : Int) + 0)) : Int) ≤ 0 by omega) (pAll1 (show (0 + ((-1) * ρ 2 + (1 * ((wSk (wN h) (wB h) ((wSk (wN h) (wB h) (p)) + 1)) : Int) + 0)) : Int) ≤ 0 by omega) (pAll1 (show (1 + (1 * ((wSk (wN h) (wB h) ((wSk (wN h) (wB h) (p)) + 1)) : Int) + ((-1) * (e : Int) + 0)) : Int) ≤ 0 by omega) (pAll1 (show (0 + ((-1) * ρ 2 + (1 * (e : Int) + 0)) : Int) ≤ 0 by omega) (pAll1 (show (0 + ((-1) * (w : Int) + 0) : Int) ≤ 0 by omega) (pAll1 (show ((-10) + (1 * (w : Int) + 0) : Int) ≤ 0 by omega) (pAll0))))))))))))))
            · exact pAll1 (pgS ho hh ((wSk (wN h) (wB h) (p)) + 1) (by omega) (show (1 + (1 * ρ 17 + 0) : Int) = _ by omega) (show (0 + (1 * ((wSk (wN h) (wB h) ((wSk (wN h) (wB h) (p)) + 1)) : Int) + 0) : Int) = _ by omega)) (pAll1 (pgF hf 542 (by decide) (by decide) ((wSk (wN h) (wB h) ((wSk (wN h) (wB h) (p)) + 1))) (by omega) (show (0 + (1 * ((wSk (wN h) (wB h) ((wSk (wN h) (wB h) (p)) + 1)) : Int) + 0) : Int) = _ by omega) (show (0 + (1 * (e : Int) + 0) : Int) = _ by rw [fA_NR d0 hn]; omega)) (pAll1 (pgF hf 543 (by decide) (by decide) ((wSk (wN h) (wB h) ((wSk (wN h) (wB h) (p)) + 1))) (by omega) (show (0 + (1 * ((wSk (wN h) (wB h) ((wSk (wN h) (wB h) (p)) + 1)) : Int) + 0) : Int) = _ by omega) (show (0 + (1 * (w : Int) + 0) : Int) = _ by rw [fA_NV d4 d5]; omega)) (pAll1 (pgF hf 531 (by decide) (by decide) (16 * e + (g + 1)) (by omega) (show (1 + (1 * ρ 4 + (2 * ρ 5 + (4 * ρ 6 + (8 * ρ 7 + (16 * (e : Int) + 0))))) : Int) = _ by omega) (show (0 + (1 * ρ 16 + 0) : Int) = _ by rw [fA_IT1 (g := g + 1) d9 d3 hn]; omega)) (pAll1 (pgF hf 563 (by decide) (by decide) (1600 * e + 100 * (g + 1) + w) (by omega) (show (100 + (100 * ρ 4 + (200 * ρ 5 + (400 * ρ 6 + (800 * ρ 7 + (1600 * (e : Int) + (1 * (w : Int) + 0)))))) : Int) = _ by omega) (show (0 + (1 * ρ 12 + 0) : Int) = _ by rw [fA_I (s := 1) (j := 0) (r := 563) (g := g + 1) (v := w) (Or.inr ⟨rfl, rfl, by decide⟩) d9 d3 (by omega)]; omega)) (pAll1 (pgF hf 564 (by decide) (by decide) (1600 * e + 100 * (g + 1) + v1) (by omega) (show (100 + (100 * ρ 4 + (200 * ρ 5 + (400 * ρ 6 + (800 * ρ 7 + (1 * ρ 9 + (1600 * (e : Int) + 0)))))) : Int) = _ by omega) (show (0 + (1 * ρ 13 + 0) : Int) = _ by rw [fA_I (s := 1) (j := 1) (r := 564) (g := g + 1) (v := v1) (Or.inr ⟨rfl, rfl, by decide⟩) d9 d3 (by omega)]; omega)) (pAll1 (pgF hf 565 (by decide) (by decide) (1600 * e + 100 * (g + 1) + v2) (by omega) (show (100 + (100 * ρ 4 + (200 * ρ 5 + (400 * ρ 6 + (800 * ρ 7 + (1 * ρ 10 + (1600 * (e : Int) + 0)))))) : Int) = _ by omega) (show (0 + (1 * ρ 14 + 0) : Int) = _ by rw [fA_I (s := 1) (j := 2) (r := 565) (g := g + 1) (v := v2) (Or.inr ⟨rfl, rfl, by decide⟩) d9 d3 (by omega)]; omega)) (pAll1 (pgF hf 566 (by decide) (by decide) (1600 * e + 100 * (g + 1) + v3) (by omega) (show (100 + (100 * ρ 4 + (200 * ρ 5 + (400 * ρ 6 + (800 * ρ 7 + (1 * ρ 11 + (1600 * (e : Int) + 0)))))) : Int) = _ by omega) (show (0 + (1 * ρ 15 + 0) : Int) = _ by rw [fA_I (s := 1) (j := 3) (r := 566) (g := g + 1) (v := v3) (Or.inr ⟨rfl, rfl, by decide⟩) d9 d3 (by omega)]; omega)) (pAll0))))))))
    · rcases hc with ⟨c8, c9⟩ | ⟨c8, c9, d0, d⟩
      · rw [c9] at er
        unfold wFl at er
        rw [c8] at hb1
        refine ⟨rIT1c_8, List.mem_of_getElem? (i := 8) rfl, pEnd [ρ 0, ρ 1, ρ 2, ρ 3, ρ 4, ρ 5, ρ 6, ρ 7, ρ 8, ρ 9, ρ 10, ρ 11, ρ 12, ρ 13, ρ 14, ρ 15, ρ 16, ρ 17, ρ 18] rfl ?_ ?_ ?_ ?_⟩
        · exact hL
        · intro k b hk
          cases hk
        · exact pAll1 (show (0 + (1 * ρ 3 + ((-1) * ρ 17 + 0)) : Int) ≤ 0 by omega) (pAll1 (show (0 + ((-1) * ρ 2 + (1 * ρ 17 + 0)) : Int) ≤ 0 by omega) (pAll1 (show (1 + ((-1) * ρ 2 + (1 * ρ 17 + 0)) : Int) ≤ 0 by omega) (pAll1 (show (1 + ((-1) * ρ 18 + 0) : Int) ≤ 0 by omega) (pAll1 (show ((-100) + (1 * ρ 18 + 0) : Int) ≤ 0 by omega) (pAll1 (show (100 + ((-1) * ρ 18 + 0) : Int) ≤ 0 by omega) (pAll1 (show ((-1) + (1 * ρ 5 + 0) : Int) ≤ 0 by omega) (pAll1 (show (1 + ((-1) * ρ 5 + 0) : Int) ≤ 0 by omega) (pAll1 (show (1 + (1 * ρ 16 + (1 * ρ 17 + 0)) : Int) ≤ 0 by omega) (pAll1 (show ((-1) + ((-1) * ρ 16 + ((-1) * ρ 17 + 0)) : Int) ≤ 0 by omega) (pAll0))))))))))
        · exact pAll0
      · rw [c8] at hb1
        have c9 : (wSk (wN h) (wB h) (p)) + 1 ≤ (wSk (wN h) (wB h) ((wSk (wN h) (wB h) (p)) + 1)) := c9
        have d0 : (wSk (wN h) (wB h) ((wSk (wN h) (wB h) (p)) + 1)) ≤ wN h := d0
        rcases d with ⟨d1, d2, d3, d4⟩ | ⟨e, d1, d2, d3, d4, d5, d6⟩
        · have d1 : (fNr (wN h) (wB h) (wSk (wN h) (wB h) ((wSk (wN h) (wB h) (p)) + 1))) < 0 := d1
          have d2 : (fI (wN h) (wB h) 1 (g) (p)) = (fNr (wN h) (wB h) (wSk (wN h) (wB h) ((wSk (wN h) (wB h) (p)) + 1))) := d2
          have d3 : ((wSk (wN h) (wB h) ((wSk (wN h) (wB h) (p)) + 1)) : Int) ≤ -(fNr (wN h) (wB h) (wSk (wN h) (wB h) ((wSk (wN h) (wB h) (p)) + 1))) - 1 := d3
          have d4 : -(fNr (wN h) (wB h) (wSk (wN h) (wB h) ((wSk (wN h) (wB h) (p)) + 1))) - 1 ≤ (wN h : Int) := d4
          rw [d2] at er
          refine ⟨rIT1c_9, List.mem_of_getElem? (i := 9) rfl, pEnd [ρ 0, ρ 1, ρ 2, ρ 3, ρ 4, ρ 5, ρ 6, ρ 7, ρ 8, ρ 9, ρ 10, ρ 11, ρ 12, ρ 13, ρ 14, ρ 15, ρ 16, ρ 17, ρ 18, ((wSk (wN h) (wB h) ((wSk (wN h) (wB h) (p)) + 1)) : Int), (fNr (wN h) (wB h) (wSk (wN h) (wB h) ((wSk (wN h) (wB h) (p)) + 1)))] rfl ?_ ?_ ?_ ?_⟩
          · intro j hj
            match j, hj with
            | 0, _ => exact q0.symm
            | 1, _ => exact q1.symm
            | 2, _ => exact q2.symm
            | 3, _ => exact q3.symm
            | 4, _ => exact q4.symm
            | 5, _ => exact q5.symm
            | 6, _ => exact q6.symm
            | 7, _ => exact q7.symm
            | 8, _ => exact q8.symm
            | 9, _ => exact q9.symm
            | 10, _ => exact q10.symm
            | 11, _ => exact q11.symm
            | 12, _ => exact q12.symm
            | 13, _ => exact q13.symm
            | 14, _ => exact q14.symm
            | 15, _ => exact q15.symm
            | 16, _ => exact q16.symm
            | 17, _ => exact q17.symm
            | 18, _ => exact q18.symm
            | k + 19, hj => exact absurd hj (by show ¬ (k + 19 < 19); omega)
          · intro k b hk
            match k, hk with
            | 0, hk => cases hk; exact (show (0 : Int) ≤ ((wSk (wN h) (wB h) ((wSk (wN h) (wB h) (p)) + 1)) : Int) ∧ ((wSk (wN h) (wB h) ((wSk (wN h) (wB h) (p)) + 1)) : Int) ≤ (240 : Int) by omega)
            | 1, hk => cases hk; exact (show ((-241) : Int) ≤ (fNr (wN h) (wB h) (wSk (wN h) (wB h) ((wSk (wN h) (wB h) (p)) + 1))) ∧ (fNr (wN h) (wB h) (wSk (wN h) (wB h) ((wSk (wN h) (wB h) (p)) + 1))) ≤ ((-1) : Int) by omega)
            | k + 2, hk => cases hk
          · exact pAll1 (show (0 + (1 * ρ 3 + ((-1) * ρ 17 + 0)) : Int) ≤ 0 by omega) (pAll1 (show (0 + ((-1) * ρ 2 + (1 * ρ 17 + 0)) : Int) ≤ 0 by omega) (pAll1 (show (1 + ((-1) * ρ 2 + (1 * ρ 17 + 0)) : Int) ≤ 0 by omega) (pAll1 (show (1 + ((-1) * ρ 18 + 0) : Int) ≤ 0 by omega) (pAll1 (show ((-100) + (1 * ρ 18 + 0) : Int) ≤ 0 by omega) (pAll1 (show (100 + ((-1) * ρ 18 + 0) : Int) ≤ 0 by omega) (pAll1 (show (0 + (1 * ρ 5 + 0) : Int) ≤ 0 by omega) (pAll1 (show (0 + ((-1) * ρ 5 + 0) : Int) ≤ 0 by omega) (pAll1 (show (1 + (1 * ρ 17 + ((-1) * ((wSk (wN h) (wB h) ((wSk (wN h) (wB h) (p)) + 1)) : Int) + 0)) : Int) ≤ 0 by omega) (pAll1 (show (0 + ((-1) * ρ 2 + (1 * ((wSk (wN h) (wB h) ((wSk (wN h) (wB h) (p)) + 1)) : Int) + 0)) : Int) ≤ 0 by omega) (pAll1 (show (0 + (1 * ρ 16 + ((-1) * (fNr (wN h) (wB h) (wSk (wN h) (wB h) ((wSk (wN h) (wB h) (p)) + 1))) + 0)) : Int) ≤ 0 by omega) (pAll1 (show (0 + ((-1) * ρ 16 + (1 * (fNr (wN h) (wB h) (wSk (wN h) (wB h) ((wSk (wN h) (wB h) (p)) + 1))) + 0)) : Int) ≤ 0 by omega) (pAll1 (show (1 + (1 * ((wSk (wN h) (wB h) ((wSk (wN h) (wB h) (p)) + 1)) : Int) + (1 * (fNr (wN h) (wB h) (wSk (wN h) (wB h) ((wSk (wN h) (wB h) (p)) + 1))) + 0)) : Int) ≤ 0 by omega) (pAll1 (show ((-1) + ((-1) * ρ 2 + ((-1) * (fNr (wN h) (wB h) (wSk (wN h) (wB h) ((wSk (wN h) (wB h) (p)) + 1))) + 0)) : Int) ≤ 0 by omega) (pAll0))))))))))))))
          · exact pAll1 (pgS ho hh ((wSk (wN h) (wB h) (p)) + 1) (by omega) (show (1 + (1 * ρ 17 + 0) : Int) = _ by omega) (show (0 + (1 * ((wSk (wN h) (wB h) ((wSk (wN h) (wB h) (p)) + 1)) : Int) + 0) : Int) = _ by omega)) (pAll1 (pgF hf 542 (by decide) (by decide) ((wSk (wN h) (wB h) ((wSk (wN h) (wB h) (p)) + 1))) (by omega) (show (0 + (1 * ((wSk (wN h) (wB h) ((wSk (wN h) (wB h) (p)) + 1)) : Int) + 0) : Int) = _ by omega) (show (0 + (1 * (fNr (wN h) (wB h) (wSk (wN h) (wB h) ((wSk (wN h) (wB h) (p)) + 1))) + 0) : Int) = _ by rw [fA_NR d0 hn]; omega)) (pAll0))
        · have d1 : (fNr (wN h) (wB h) (wSk (wN h) (wB h) ((wSk (wN h) (wB h) (p)) + 1))) = (e : Int) := d1
          have d2 : (wSk (wN h) (wB h) ((wSk (wN h) (wB h) (p)) + 1)) < e := d2
          have d4 : 0 ≤ (fNv (wN h) (wB h) (wSk (wN h) (wB h) ((wSk (wN h) (wB h) (p)) + 1))) := d4
          have d5 : (fNv (wN h) (wB h) (wSk (wN h) (wB h) ((wSk (wN h) (wB h) (p)) + 1))) ≤ 99 := d5
          obtain ⟨w, ew⟩ : ∃ w : Nat, (fNv (wN h) (wB h) (wSk (wN h) (wB h) ((wSk (wN h) (wB h) (p)) + 1))) = (w : Int) := ⟨(fNv (wN h) (wB h) (wSk (wN h) (wB h) ((wSk (wN h) (wB h) (p)) + 1))).toNat, by omega⟩
          have l1 : fLo 1 1 = 0 := rfl
          have l2 : fHi 1 1 = 9 := rfl
          rw [l1, l2] at d6
          rcases d6 with ⟨d7, d8⟩ | ⟨d7, d8, d9, d10, d11⟩
          · rw [d8] at er
            have d7 : (fNv (wN h) (wB h) (wSk (wN h) (wB h) ((wSk (wN h) (wB h) (p)) + 1))) < 0 ∨ 9 < (fNv (wN h) (wB h) (wSk (wN h) (wB h) ((wSk (wN h) (wB h) (p)) + 1))) := d7
            rcases d7 with d7 | d7
            · omega
            · refine ⟨rIT1c_11, List.mem_of_getElem? (i := 11) rfl, pEnd [ρ 0, ρ 1, ρ 2, ρ 3, ρ 4, ρ 5, ρ 6, ρ 7, ρ 8, ρ 9, ρ 10, ρ 11, ρ 12, ρ 13, ρ 14, ρ 15, ρ 16, ρ 17, ρ 18, ((wSk (wN h) (wB h) ((wSk (wN h) (wB h) (p)) + 1)) : Int), (e : Int), (w : Int)] rfl ?_ ?_ ?_ ?_⟩
              · intro j hj
                match j, hj with
                | 0, _ => exact q0.symm
                | 1, _ => exact q1.symm
                | 2, _ => exact q2.symm
                | 3, _ => exact q3.symm
                | 4, _ => exact q4.symm
                | 5, _ => exact q5.symm
                | 6, _ => exact q6.symm
                | 7, _ => exact q7.symm
                | 8, _ => exact q8.symm
                | 9, _ => exact q9.symm
                | 10, _ => exact q10.symm
                | 11, _ => exact q11.symm
                | 12, _ => exact q12.symm
                | 13, _ => exact q13.symm
                | 14, _ => exact q14.symm
                | 15, _ => exact q15.symm
                | 16, _ => exact q16.symm
                | 17, _ => exact q17.symm
                | 18, _ => exact q18.symm
                | k + 19, hj => exact absurd hj (by show ¬ (k + 19 < 19); omega)
              · intro k b hk
                match k, hk with
                | 0, hk => cases hk; exact (show (0 : Int) ≤ ((wSk (wN h) (wB h) ((wSk (wN h) (wB h) (p)) + 1)) : Int) ∧ ((wSk (wN h) (wB h) ((wSk (wN h) (wB h) (p)) + 1)) : Int) ≤ (240 : Int) by omega)
                | 1, hk => cases hk; exact (show (0 : Int) ≤ (e : Int) ∧ (e : Int) ≤ (240 : Int) by omega)
                | 2, hk => cases hk; exact (show (0 : Int) ≤ (w : Int) ∧ (w : Int) ≤ (99 : Int) by omega)
                | k + 3, hk => cases hk
              · exact pAll1 (show (0 + (1 * ρ 3 + ((-1) * ρ 17 + 0)) : Int) ≤ 0 by omega) (pAll1 (show (0 + ((-1) * ρ 2 + (1 * ρ 17 + 0)) : Int) ≤ 0 by omega) (pAll1 (show (1 + ((-1) * ρ 2 + (1 * ρ 17 + 0)) : Int) ≤ 0 by omega) (pAll1 (show (1 + ((-1) * ρ 18 + 0) : Int) ≤ 0 by omega) (pAll1 (show ((-100) + (1 * ρ 18 + 0) : Int) ≤ 0 by omega) (pAll1 (show (100 + ((-1) * ρ 18 + 0) : Int) ≤ 0 by omega) (pAll1 (show (0 + (1 * ρ 5 + 0) : Int) ≤ 0 by omega) (pAll1 (show (0 + ((-1) * ρ 5 + 0) : Int) ≤ 0 by omega) (pAll1 (show (1 + (1 * ρ 17 + ((-1) * ((wSk (wN h) (wB h) ((wSk (wN h) (wB h) (p)) + 1)) : Int) + 0)) : Int) ≤ 0 by omega) (pAll1 (show (0 + ((-1) * ρ 2 + (1 * ((wSk (wN h) (wB h) ((wSk (wN h) (wB h) (p)) + 1)) : Int) + 0)) : Int) ≤ 0 by omega) (pAll1 (show (1 + (1 * ((wSk (wN h) (wB h) ((wSk (wN h) (wB h) (p)) + 1)) : Int) + ((-1) * (e : Int) + 0)) : Int) ≤ 0 by omega) (pAll1 (show (0 + ((-1) * ρ 2 + (1 * (e : Int) + 0)) : Int) ≤ 0 by omega) (pAll1 (show (10 + ((-1) * (w : Int) + 0) : Int) ≤ 0 by omega) (pAll1 (show (0 + (1 * ρ 16 + (1 * (e : Int) + 0)) : Int) ≤ 0 by omega) (pAll1 (show (0 + ((-1) * ρ 16 + ((-1) * (e : Int) + 0)) : Int) ≤ 0 by omega) (pAll0)))))))))))))))
              · exact pAll1 (pgS ho hh ((wSk (wN h) (wB h) (p)) + 1) (by omega) (show (1 + (1 * ρ 17 + 0) : Int) = _ by omega) (show (0 + (1 * ((wSk (wN h) (wB h) ((wSk (wN h) (wB h) (p)) + 1)) : Int) + 0) : Int) = _ by omega)) (pAll1 (pgF hf 542 (by decide) (by decide) ((wSk (wN h) (wB h) ((wSk (wN h) (wB h) (p)) + 1))) (by omega) (show (0 + (1 * ((wSk (wN h) (wB h) ((wSk (wN h) (wB h) (p)) + 1)) : Int) + 0) : Int) = _ by omega) (show (0 + (1 * (e : Int) + 0) : Int) = _ by rw [fA_NR d0 hn]; omega)) (pAll1 (pgF hf 543 (by decide) (by decide) ((wSk (wN h) (wB h) ((wSk (wN h) (wB h) (p)) + 1))) (by omega) (show (0 + (1 * ((wSk (wN h) (wB h) ((wSk (wN h) (wB h) (p)) + 1)) : Int) + 0) : Int) = _ by omega) (show (0 + (1 * (w : Int) + 0) : Int) = _ by rw [fA_NV d4 d5]; omega)) (pAll0)))
          · have d7 : 0 ≤ (fNv (wN h) (wB h) (wSk (wN h) (wB h) ((wSk (wN h) (wB h) (p)) + 1))) := d7
            have d8 : (fNv (wN h) (wB h) (wSk (wN h) (wB h) ((wSk (wN h) (wB h) (p)) + 1))) ≤ 9 := d8
            have d9 : g + 2 < 16 := d9
            have d10 : (fI (wN h) (wB h) 1 (g) (p)) = (fI (wN h) (wB h) 1 (g + 2) (e)) := d10
            rw [d10] at er
            have x0 : (fV (wN h) (wB h) 1 0 (g) (p) (v0 : Int)) = (fV (wN h) (wB h) 1 0 (g + 2) (e) (v0 : Int)) := by
              have y := d11 0 (v0 : Int)
              rw [if_neg (by decide)] at y
              exact y
            rw [x0] at ef0
            have x1 : (fV (wN h) (wB h) 1 1 (g) (p) (v1 : Int)) = (fV (wN h) (wB h) 1 1 (g + 2) (e) (w : Int)) := by
              have y := d11 1 (v1 : Int)
              rw [if_pos rfl] at y
              have y : (fV (wN h) (wB h) 1 1 (g) (p) (v1 : Int)) = (fV (wN h) (wB h) 1 1 (g + 2) (e) (fNv (wN h) (wB h) (wSk (wN h) (wB h) ((wSk (wN h) (wB h) (p)) + 1)))) := y
              rw [ew] at y
              exact y
            rw [x1] at ef1
            have x2 : (fV (wN h) (wB h) 1 2 (g) (p) (v2 : Int)) = (fV (wN h) (wB h) 1 2 (g + 2) (e) (v2 : Int)) := by
              have y := d11 2 (v2 : Int)
              rw [if_neg (by decide)] at y
              exact y
            rw [x2] at ef2
            have x3 : (fV (wN h) (wB h) 1 3 (g) (p) (v3 : Int)) = (fV (wN h) (wB h) 1 3 (g + 2) (e) (v3 : Int)) := by
              have y := d11 3 (v3 : Int)
              rw [if_neg (by decide)] at y
              exact y
            rw [x3] at ef3
            refine ⟨rIT1c_10, List.mem_of_getElem? (i := 10) rfl, pEnd [ρ 0, ρ 1, ρ 2, ρ 3, ρ 4, ρ 5, ρ 6, ρ 7, ρ 8, ρ 9, ρ 10, ρ 11, ρ 12, ρ 13, ρ 14, ρ 15, ρ 16, ρ 17, ρ 18, ((wSk (wN h) (wB h) ((wSk (wN h) (wB h) (p)) + 1)) : Int), (e : Int), (w : Int)] rfl ?_ ?_ ?_ ?_⟩
            · intro j hj
              match j, hj with
              | 0, _ => exact q0.symm
              | 1, _ => exact q1.symm
              | 2, _ => exact q2.symm
              | 3, _ => exact q3.symm
              | 4, _ => exact q4.symm
              | 5, _ => exact q5.symm
              | 6, _ => exact q6.symm
              | 7, _ => exact q7.symm
              | 8, _ => exact q8.symm
              | 9, _ => exact q9.symm
              | 10, _ => exact q10.symm
              | 11, _ => exact q11.symm
              | 12, _ => exact q12.symm
              | 13, _ => exact q13.symm
              | 14, _ => exact q14.symm
              | 15, _ => exact q15.symm
              | 16, _ => exact q16.symm
              | 17, _ => exact q17.symm
              | 18, _ => exact q18.symm
              | k + 19, hj => exact absurd hj (by show ¬ (k + 19 < 19); omega)
            · intro k b hk
              match k, hk with
              | 0, hk => cases hk; exact (show (0 : Int) ≤ ((wSk (wN h) (wB h) ((wSk (wN h) (wB h) (p)) + 1)) : Int) ∧ ((wSk (wN h) (wB h) ((wSk (wN h) (wB h) (p)) + 1)) : Int) ≤ (240 : Int) by omega)
              | 1, hk => cases hk; exact (show (0 : Int) ≤ (e : Int) ∧ (e : Int) ≤ (240 : Int) by omega)
              | 2, hk => cases hk; exact (show (0 : Int) ≤ (w : Int) ∧ (w : Int) ≤ (99 : Int) by omega)
              | k + 3, hk => cases hk
            · exact pAll1 (show (0 + (1 * ρ 3 + ((-1) * ρ 17 + 0)) : Int) ≤ 0 by omega) (pAll1 (show (0 + ((-1) * ρ 2 + (1 * ρ 17 + 0)) : Int) ≤ 0 by omega) (pAll1 (show (1 + ((-1) * ρ 2 + (1 * ρ 17 + 0)) : Int) ≤ 0 by omega) (pAll1 (show (1 + ((-1) * ρ 18 + 0) : Int) ≤ 0 by omega) (pAll1 (show ((-100) + (1 * ρ 18 + 0) : Int) ≤ 0 by omega) (pAll1 (show (100 + ((-1) * ρ 18 + 0) : Int) ≤ 0 by omega) (pAll1 (show (0 + (1 * ρ 5 + 0) : Int) ≤ 0 by omega) (pAll1 (show (0 + ((-1) * ρ 5 + 0) : Int) ≤ 0 by omega) (pAll1 (show (1 + (1 * ρ 17 + ((-1) * ((wSk (wN h) (wB h) ((wSk (wN h) (wB h) (p)) + 1)) : Int) + 0)) : Int) ≤ 0 by omega) (pAll1 (show (0 + ((-1) * ρ 2 + (1 * ((wSk (wN h) (wB h) ((wSk (wN h) (wB h) (p)) + 1)) : Int) + 0)) : Int) ≤ 0 by omega) (pAll1 (show (1 + (1 * ((wSk (wN h) (wB h) ((wSk (wN h) (wB h) (p)) + 1)) : Int) + ((-1) * (e : Int) + 0)) : Int) ≤ 0 by omega) (pAll1 (show (0 + ((-1) * ρ 2 + (1 * (e : Int) + 0)) : Int) ≤ 0 by omega) (pAll1 (show (0 + ((-1) * (w : Int) + 0) : Int) ≤ 0 by omega) (pAll1 (show ((-9) + (1 * (w : Int) + 0) : Int) ≤ 0 by omega) (pAll0))))))))))))))
            · exact pAll1 (pgS ho hh ((wSk (wN h) (wB h) (p)) + 1) (by omega) (show (1 + (1 * ρ 17 + 0) : Int) = _ by omega) (show (0 + (1 * ((wSk (wN h) (wB h) ((wSk (wN h) (wB h) (p)) + 1)) : Int) + 0) : Int) = _ by omega)) (pAll1 (pgF hf 542 (by decide) (by decide) ((wSk (wN h) (wB h) ((wSk (wN h) (wB h) (p)) + 1))) (by omega) (show (0 + (1 * ((wSk (wN h) (wB h) ((wSk (wN h) (wB h) (p)) + 1)) : Int) + 0) : Int) = _ by omega) (show (0 + (1 * (e : Int) + 0) : Int) = _ by rw [fA_NR d0 hn]; omega)) (pAll1 (pgF hf 543 (by decide) (by decide) ((wSk (wN h) (wB h) ((wSk (wN h) (wB h) (p)) + 1))) (by omega) (show (0 + (1 * ((wSk (wN h) (wB h) ((wSk (wN h) (wB h) (p)) + 1)) : Int) + 0) : Int) = _ by omega) (show (0 + (1 * (w : Int) + 0) : Int) = _ by rw [fA_NV d4 d5]; omega)) (pAll1 (pgF hf 531 (by decide) (by decide) (16 * e + (g + 2)) (by omega) (show (2 + (1 * ρ 4 + (2 * ρ 5 + (4 * ρ 6 + (8 * ρ 7 + (16 * (e : Int) + 0))))) : Int) = _ by omega) (show (0 + (1 * ρ 16 + 0) : Int) = _ by rw [fA_IT1 (g := g + 2) d9 d3 hn]; omega)) (pAll1 (pgF hf 563 (by decide) (by decide) (1600 * e + 100 * (g + 2) + v0) (by omega) (show (200 + (100 * ρ 4 + (200 * ρ 5 + (400 * ρ 6 + (800 * ρ 7 + (1 * ρ 8 + (1600 * (e : Int) + 0)))))) : Int) = _ by omega) (show (0 + (1 * ρ 12 + 0) : Int) = _ by rw [fA_I (s := 1) (j := 0) (r := 563) (g := g + 2) (v := v0) (Or.inr ⟨rfl, rfl, by decide⟩) d9 d3 (by omega)]; omega)) (pAll1 (pgF hf 564 (by decide) (by decide) (1600 * e + 100 * (g + 2) + w) (by omega) (show (200 + (100 * ρ 4 + (200 * ρ 5 + (400 * ρ 6 + (800 * ρ 7 + (1600 * (e : Int) + (1 * (w : Int) + 0)))))) : Int) = _ by omega) (show (0 + (1 * ρ 13 + 0) : Int) = _ by rw [fA_I (s := 1) (j := 1) (r := 564) (g := g + 2) (v := w) (Or.inr ⟨rfl, rfl, by decide⟩) d9 d3 (by omega)]; omega)) (pAll1 (pgF hf 565 (by decide) (by decide) (1600 * e + 100 * (g + 2) + v2) (by omega) (show (200 + (100 * ρ 4 + (200 * ρ 5 + (400 * ρ 6 + (800 * ρ 7 + (1 * ρ 10 + (1600 * (e : Int) + 0)))))) : Int) = _ by omega) (show (0 + (1 * ρ 14 + 0) : Int) = _ by rw [fA_I (s := 1) (j := 2) (r := 565) (g := g + 2) (v := v2) (Or.inr ⟨rfl, rfl, by decide⟩) d9 d3 (by omega)]; omega)) (pAll1 (pgF hf 566 (by decide) (by decide) (1600 * e + 100 * (g + 2) + v3) (by omega) (show (200 + (100 * ρ 4 + (200 * ρ 5 + (400 * ρ 6 + (800 * ρ 7 + (1 * ρ 11 + (1600 * (e : Int) + 0)))))) : Int) = _ by omega) (show (0 + (1 * ρ 15 + 0) : Int) = _ by rw [fA_I (s := 1) (j := 3) (r := 566) (g := g + 2) (v := v3) (Or.inr ⟨rfl, rfl, by decide⟩) d9 d3 (by omega)]; omega)) (pAll0))))))))
    · rcases hc with ⟨c8, c9⟩ | ⟨c8, c9, d0, d⟩
      · rw [c9] at er
        unfold wFl at er
        rw [c8] at hb2
        refine ⟨rIT1c_12, List.mem_of_getElem? (i := 12) rfl, pEnd [ρ 0, ρ 1, ρ 2, ρ 3, ρ 4, ρ 5, ρ 6, ρ 7, ρ 8, ρ 9, ρ 10, ρ 11, ρ 12, ρ 13, ρ 14, ρ 15, ρ 16, ρ 17, ρ 18] rfl ?_ ?_ ?_ ?_⟩
        · exact hL
        · intro k b hk
          cases hk
        · exact pAll1 (show (0 + (1 * ρ 3 + ((-1) * ρ 17 + 0)) : Int) ≤ 0 by omega) (pAll1 (show (0 + ((-1) * ρ 2 + (1 * ρ 17 + 0)) : Int) ≤ 0 by omega) (pAll1 (show (1 + ((-1) * ρ 2 + (1 * ρ 17 + 0)) : Int) ≤ 0 by omega) (pAll1 (show (1 + ((-1) * ρ 18 + 0) : Int) ≤ 0 by omega) (pAll1 (show ((-101) + (1 * ρ 18 + 0) : Int) ≤ 0 by omega) (pAll1 (show (101 + ((-1) * ρ 18 + 0) : Int) ≤ 0 by omega) (pAll1 (show ((-1) + (1 * ρ 6 + 0) : Int) ≤ 0 by omega) (pAll1 (show (1 + ((-1) * ρ 6 + 0) : Int) ≤ 0 by omega) (pAll1 (show (1 + (1 * ρ 16 + (1 * ρ 17 + 0)) : Int) ≤ 0 by omega) (pAll1 (show ((-1) + ((-1) * ρ 16 + ((-1) * ρ 17 + 0)) : Int) ≤ 0 by omega) (pAll0))))))))))
        · exact pAll0
      · rw [c8] at hb2
        have c9 : (wSk (wN h) (wB h) (p)) + 1 ≤ (wSk (wN h) (wB h) ((wSk (wN h) (wB h) (p)) + 1)) := c9
        have d0 : (wSk (wN h) (wB h) ((wSk (wN h) (wB h) (p)) + 1)) ≤ wN h := d0
        rcases d with ⟨d1, d2, d3, d4⟩ | ⟨e, d1, d2, d3, d4, d5, d6⟩
        · have d1 : (fNr (wN h) (wB h) (wSk (wN h) (wB h) ((wSk (wN h) (wB h) (p)) + 1))) < 0 := d1
          have d2 : (fI (wN h) (wB h) 1 (g) (p)) = (fNr (wN h) (wB h) (wSk (wN h) (wB h) ((wSk (wN h) (wB h) (p)) + 1))) := d2
          have d3 : ((wSk (wN h) (wB h) ((wSk (wN h) (wB h) (p)) + 1)) : Int) ≤ -(fNr (wN h) (wB h) (wSk (wN h) (wB h) ((wSk (wN h) (wB h) (p)) + 1))) - 1 := d3
          have d4 : -(fNr (wN h) (wB h) (wSk (wN h) (wB h) ((wSk (wN h) (wB h) (p)) + 1))) - 1 ≤ (wN h : Int) := d4
          rw [d2] at er
          refine ⟨rIT1c_13, List.mem_of_getElem? (i := 13) rfl, pEnd [ρ 0, ρ 1, ρ 2, ρ 3, ρ 4, ρ 5, ρ 6, ρ 7, ρ 8, ρ 9, ρ 10, ρ 11, ρ 12, ρ 13, ρ 14, ρ 15, ρ 16, ρ 17, ρ 18, ((wSk (wN h) (wB h) ((wSk (wN h) (wB h) (p)) + 1)) : Int), (fNr (wN h) (wB h) (wSk (wN h) (wB h) ((wSk (wN h) (wB h) (p)) + 1)))] rfl ?_ ?_ ?_ ?_⟩
          · intro j hj
            match j, hj with
            | 0, _ => exact q0.symm
            | 1, _ => exact q1.symm
            | 2, _ => exact q2.symm
            | 3, _ => exact q3.symm
            | 4, _ => exact q4.symm
            | 5, _ => exact q5.symm
            | 6, _ => exact q6.symm
            | 7, _ => exact q7.symm
            | 8, _ => exact q8.symm
            | 9, _ => exact q9.symm
            | 10, _ => exact q10.symm
            | 11, _ => exact q11.symm
            | 12, _ => exact q12.symm
            | 13, _ => exact q13.symm
            | 14, _ => exact q14.symm
            | 15, _ => exact q15.symm
            | 16, _ => exact q16.symm
            | 17, _ => exact q17.symm
            | 18, _ => exact q18.symm
            | k + 19, hj => exact absurd hj (by show ¬ (k + 19 < 19); omega)
          · intro k b hk
            match k, hk with
            | 0, hk => cases hk; exact (show (0 : Int) ≤ ((wSk (wN h) (wB h) ((wSk (wN h) (wB h) (p)) + 1)) : Int) ∧ ((wSk (wN h) (wB h) ((wSk (wN h) (wB h) (p)) + 1)) : Int) ≤ (240 : Int) by omega)
            | 1, hk => cases hk; exact (show ((-241) : Int) ≤ (fNr (wN h) (wB h) (wSk (wN h) (wB h) ((wSk (wN h) (wB h) (p)) + 1))) ∧ (fNr (wN h) (wB h) (wSk (wN h) (wB h) ((wSk (wN h) (wB h) (p)) + 1))) ≤ ((-1) : Int) by omega)
            | k + 2, hk => cases hk
          · exact pAll1 (show (0 + (1 * ρ 3 + ((-1) * ρ 17 + 0)) : Int) ≤ 0 by omega) (pAll1 (show (0 + ((-1) * ρ 2 + (1 * ρ 17 + 0)) : Int) ≤ 0 by omega) (pAll1 (show (1 + ((-1) * ρ 2 + (1 * ρ 17 + 0)) : Int) ≤ 0 by omega) (pAll1 (show (1 + ((-1) * ρ 18 + 0) : Int) ≤ 0 by omega) (pAll1 (show ((-101) + (1 * ρ 18 + 0) : Int) ≤ 0 by omega) (pAll1 (show (101 + ((-1) * ρ 18 + 0) : Int) ≤ 0 by omega) (pAll1 (show (0 + (1 * ρ 6 + 0) : Int) ≤ 0 by omega) (pAll1 (show (0 + ((-1) * ρ 6 + 0) : Int) ≤ 0 by omega) (pAll1 (show (1 + (1 * ρ 17 + ((-1) * ((wSk (wN h) (wB h) ((wSk (wN h) (wB h) (p)) + 1)) : Int) + 0)) : Int) ≤ 0 by omega) (pAll1 (show (0 + ((-1) * ρ 2 + (1 * ((wSk (wN h) (wB h) ((wSk (wN h) (wB h) (p)) + 1)) : Int) + 0)) : Int) ≤ 0 by omega) (pAll1 (show (0 + (1 * ρ 16 + ((-1) * (fNr (wN h) (wB h) (wSk (wN h) (wB h) ((wSk (wN h) (wB h) (p)) + 1))) + 0)) : Int) ≤ 0 by omega) (pAll1 (show (0 + ((-1) * ρ 16 + (1 * (fNr (wN h) (wB h) (wSk (wN h) (wB h) ((wSk (wN h) (wB h) (p)) + 1))) + 0)) : Int) ≤ 0 by omega) (pAll1 (show (1 + (1 * ((wSk (wN h) (wB h) ((wSk (wN h) (wB h) (p)) + 1)) : Int) + (1 * (fNr (wN h) (wB h) (wSk (wN h) (wB h) ((wSk (wN h) (wB h) (p)) + 1))) + 0)) : Int) ≤ 0 by omega) (pAll1 (show ((-1) + ((-1) * ρ 2 + ((-1) * (fNr (wN h) (wB h) (wSk (wN h) (wB h) ((wSk (wN h) (wB h) (p)) + 1))) + 0)) : Int) ≤ 0 by omega) (pAll0))))))))))))))
          · exact pAll1 (pgS ho hh ((wSk (wN h) (wB h) (p)) + 1) (by omega) (show (1 + (1 * ρ 17 + 0) : Int) = _ by omega) (show (0 + (1 * ((wSk (wN h) (wB h) ((wSk (wN h) (wB h) (p)) + 1)) : Int) + 0) : Int) = _ by omega)) (pAll1 (pgF hf 542 (by decide) (by decide) ((wSk (wN h) (wB h) ((wSk (wN h) (wB h) (p)) + 1))) (by omega) (show (0 + (1 * ((wSk (wN h) (wB h) ((wSk (wN h) (wB h) (p)) + 1)) : Int) + 0) : Int) = _ by omega) (show (0 + (1 * (fNr (wN h) (wB h) (wSk (wN h) (wB h) ((wSk (wN h) (wB h) (p)) + 1))) + 0) : Int) = _ by rw [fA_NR d0 hn]; omega)) (pAll0))
        · have d1 : (fNr (wN h) (wB h) (wSk (wN h) (wB h) ((wSk (wN h) (wB h) (p)) + 1))) = (e : Int) := d1
          have d2 : (wSk (wN h) (wB h) ((wSk (wN h) (wB h) (p)) + 1)) < e := d2
          have d4 : 0 ≤ (fNv (wN h) (wB h) (wSk (wN h) (wB h) ((wSk (wN h) (wB h) (p)) + 1))) := d4
          have d5 : (fNv (wN h) (wB h) (wSk (wN h) (wB h) ((wSk (wN h) (wB h) (p)) + 1))) ≤ 99 := d5
          obtain ⟨w, ew⟩ : ∃ w : Nat, (fNv (wN h) (wB h) (wSk (wN h) (wB h) ((wSk (wN h) (wB h) (p)) + 1))) = (w : Int) := ⟨(fNv (wN h) (wB h) (wSk (wN h) (wB h) ((wSk (wN h) (wB h) (p)) + 1))).toNat, by omega⟩
          have l1 : fLo 1 2 = 0 := rfl
          have l2 : fHi 1 2 = 9 := rfl
          rw [l1, l2] at d6
          rcases d6 with ⟨d7, d8⟩ | ⟨d7, d8, d9, d10, d11⟩
          · rw [d8] at er
            have d7 : (fNv (wN h) (wB h) (wSk (wN h) (wB h) ((wSk (wN h) (wB h) (p)) + 1))) < 0 ∨ 9 < (fNv (wN h) (wB h) (wSk (wN h) (wB h) ((wSk (wN h) (wB h) (p)) + 1))) := d7
            rcases d7 with d7 | d7
            · omega
            · refine ⟨rIT1c_15, List.mem_of_getElem? (i := 15) rfl, pEnd [ρ 0, ρ 1, ρ 2, ρ 3, ρ 4, ρ 5, ρ 6, ρ 7, ρ 8, ρ 9, ρ 10, ρ 11, ρ 12, ρ 13, ρ 14, ρ 15, ρ 16, ρ 17, ρ 18, ((wSk (wN h) (wB h) ((wSk (wN h) (wB h) (p)) + 1)) : Int), (e : Int), (w : Int)] rfl ?_ ?_ ?_ ?_⟩
              · intro j hj
                match j, hj with
                | 0, _ => exact q0.symm
                | 1, _ => exact q1.symm
                | 2, _ => exact q2.symm
                | 3, _ => exact q3.symm
                | 4, _ => exact q4.symm
                | 5, _ => exact q5.symm
                | 6, _ => exact q6.symm
                | 7, _ => exact q7.symm
                | 8, _ => exact q8.symm
                | 9, _ => exact q9.symm
                | 10, _ => exact q10.symm
                | 11, _ => exact q11.symm
                | 12, _ => exact q12.symm
                | 13, _ => exact q13.symm
                | 14, _ => exact q14.symm
                | 15, _ => exact q15.symm
                | 16, _ => exact q16.symm
                | 17, _ => exact q17.symm
                | 18, _ => exact q18.symm
                | k + 19, hj => exact absurd hj (by show ¬ (k + 19 < 19); omega)
              · intro k b hk
                match k, hk with
                | 0, hk => cases hk; exact (show (0 : Int) ≤ ((wSk (wN h) (wB h) ((wSk (wN h) (wB h) (p)) + 1)) : Int) ∧ ((wSk (wN h) (wB h) ((wSk (wN h) (wB h) (p)) + 1)) : Int) ≤ (240 : Int) by omega)
                | 1, hk => cases hk; exact (show (0 : Int) ≤ (e : Int) ∧ (e : Int) ≤ (240 : Int) by omega)
                | 2, hk => cases hk; exact (show (0 : Int) ≤ (w : Int) ∧ (w : Int) ≤ (99 : Int) by omega)
                | k + 3, hk => cases hk
              · exact pAll1 (show (0 + (1 * ρ 3 + ((-1) * ρ 17 + 0)) : Int) ≤ 0 by omega) (pAll1 (show (0 + ((-1) * ρ 2 + (1 * ρ 17 + 0)) : Int) ≤ 0 by omega) (pAll1 (show (1 + ((-1) * ρ 2 + (1 * ρ 17 + 0)) : Int) ≤ 0 by omega) (pAll1 (show (1 + ((-1) * ρ 18 + 0) : Int) ≤ 0 by omega) (pAll1 (show ((-101) + (1 * ρ 18 + 0) : Int) ≤ 0 by omega) (pAll1 (show (101 + ((-1) * ρ 18 + 0) : Int) ≤ 0 by omega) (pAll1 (show (0 + (1 * ρ 6 + 0) : Int) ≤ 0 by omega) (pAll1 (show (0 + ((-1) * ρ 6 + 0) : Int) ≤ 0 by omega) (pAll1 (show (1 + (1 * ρ 17 + ((-1) * ((wSk (wN h) (wB h) ((wSk (wN h) (wB h) (p)) + 1)) : Int) + 0)) : Int) ≤ 0 by omega) (pAll1 (show (0 + ((-1) * ρ 2 + (1 * ((wSk (wN h) (wB h) ((wSk (wN h) (wB h) (p)) + 1)) : Int) + 0)) : Int) ≤ 0 by omega) (pAll1 (show (1 + (1 * ((wSk (wN h) (wB h) ((wSk (wN h) (wB h) (p)) + 1)) : Int) + ((-1) * (e : Int) + 0)) : Int) ≤ 0 by omega) (pAll1 (show (0 + ((-1) * ρ 2 + (1 * (e : Int) + 0)) : Int) ≤ 0 by omega) (pAll1 (show (10 + ((-1) * (w : Int) + 0) : Int) ≤ 0 by omega) (pAll1 (show (0 + (1 * ρ 16 + (1 * (e : Int) + 0)) : Int) ≤ 0 by omega) (pAll1 (show (0 + ((-1) * ρ 16 + ((-1) * (e : Int) + 0)) : Int) ≤ 0 by omega) (pAll0)))))))))))))))
              · exact pAll1 (pgS ho hh ((wSk (wN h) (wB h) (p)) + 1) (by omega) (show (1 + (1 * ρ 17 + 0) : Int) = _ by omega) (show (0 + (1 * ((wSk (wN h) (wB h) ((wSk (wN h) (wB h) (p)) + 1)) : Int) + 0) : Int) = _ by omega)) (pAll1 (pgF hf 542 (by decide) (by decide) ((wSk (wN h) (wB h) ((wSk (wN h) (wB h) (p)) + 1))) (by omega) (show (0 + (1 * ((wSk (wN h) (wB h) ((wSk (wN h) (wB h) (p)) + 1)) : Int) + 0) : Int) = _ by omega) (show (0 + (1 * (e : Int) + 0) : Int) = _ by rw [fA_NR d0 hn]; omega)) (pAll1 (pgF hf 543 (by decide) (by decide) ((wSk (wN h) (wB h) ((wSk (wN h) (wB h) (p)) + 1))) (by omega) (show (0 + (1 * ((wSk (wN h) (wB h) ((wSk (wN h) (wB h) (p)) + 1)) : Int) + 0) : Int) = _ by omega) (show (0 + (1 * (w : Int) + 0) : Int) = _ by rw [fA_NV d4 d5]; omega)) (pAll0)))
          · have d7 : 0 ≤ (fNv (wN h) (wB h) (wSk (wN h) (wB h) ((wSk (wN h) (wB h) (p)) + 1))) := d7
            have d8 : (fNv (wN h) (wB h) (wSk (wN h) (wB h) ((wSk (wN h) (wB h) (p)) + 1))) ≤ 9 := d8
            have d9 : g + 4 < 16 := d9
            have d10 : (fI (wN h) (wB h) 1 (g) (p)) = (fI (wN h) (wB h) 1 (g + 4) (e)) := d10
            rw [d10] at er
            have x0 : (fV (wN h) (wB h) 1 0 (g) (p) (v0 : Int)) = (fV (wN h) (wB h) 1 0 (g + 4) (e) (v0 : Int)) := by
              have y := d11 0 (v0 : Int)
              rw [if_neg (by decide)] at y
              exact y
            rw [x0] at ef0
            have x1 : (fV (wN h) (wB h) 1 1 (g) (p) (v1 : Int)) = (fV (wN h) (wB h) 1 1 (g + 4) (e) (v1 : Int)) := by
              have y := d11 1 (v1 : Int)
              rw [if_neg (by decide)] at y
              exact y
            rw [x1] at ef1
            have x2 : (fV (wN h) (wB h) 1 2 (g) (p) (v2 : Int)) = (fV (wN h) (wB h) 1 2 (g + 4) (e) (w : Int)) := by
              have y := d11 2 (v2 : Int)
              rw [if_pos rfl] at y
              have y : (fV (wN h) (wB h) 1 2 (g) (p) (v2 : Int)) = (fV (wN h) (wB h) 1 2 (g + 4) (e) (fNv (wN h) (wB h) (wSk (wN h) (wB h) ((wSk (wN h) (wB h) (p)) + 1)))) := y
              rw [ew] at y
              exact y
            rw [x2] at ef2
            have x3 : (fV (wN h) (wB h) 1 3 (g) (p) (v3 : Int)) = (fV (wN h) (wB h) 1 3 (g + 4) (e) (v3 : Int)) := by
              have y := d11 3 (v3 : Int)
              rw [if_neg (by decide)] at y
              exact y
            rw [x3] at ef3
            refine ⟨rIT1c_14, List.mem_of_getElem? (i := 14) rfl, pEnd [ρ 0, ρ 1, ρ 2, ρ 3, ρ 4, ρ 5, ρ 6, ρ 7, ρ 8, ρ 9, ρ 10, ρ 11, ρ 12, ρ 13, ρ 14, ρ 15, ρ 16, ρ 17, ρ 18, ((wSk (wN h) (wB h) ((wSk (wN h) (wB h) (p)) + 1)) : Int), (e : Int), (w : Int)] rfl ?_ ?_ ?_ ?_⟩
            · intro j hj
              match j, hj with
              | 0, _ => exact q0.symm
              | 1, _ => exact q1.symm
              | 2, _ => exact q2.symm
              | 3, _ => exact q3.symm
              | 4, _ => exact q4.symm
              | 5, _ => exact q5.symm
              | 6, _ => exact q6.symm
              | 7, _ => exact q7.symm
              | 8, _ => exact q8.symm
              | 9, _ => exact q9.symm
              | 10, _ => exact q10.symm
              | 11, _ => exact q11.symm
              | 12, _ => exact q12.symm
              | 13, _ => exact q13.symm
              | 14, _ => exact q14.symm
              | 15, _ => exact q15.symm
              | 16, _ => exact q16.symm
              | 17, _ => exact q17.symm
              | 18, _ => exact q18.symm
              | k + 19, hj => exact absurd hj (by show ¬ (k + 19 < 19); omega)
            · intro k b hk
              match k, hk with
              | 0, hk => cases hk; exact (show (0 : Int) ≤ ((wSk (wN h) (wB h) ((wSk (wN h) (wB h) (p)) + 1)) : Int) ∧ ((wSk (wN h) (wB h) ((wSk (wN h) (wB h) (p)) + 1)) : Int) ≤ (240 : Int) by omega)
              | 1, hk => cases hk; exact (show (0 : Int) ≤ (e : Int) ∧ (e : Int) ≤ (240 : Int) by omega)
              | 2, hk => cases hk; exact (show (0 : Int) ≤ (w : Int) ∧ (w : Int) ≤ (99 : Int) by omega)
              | k + 3, hk => cases hk
            · exact pAll1 (show (0 + (1 * ρ 3 + ((-1) * ρ 17 + 0)) : Int) ≤ 0 by omega) (pAll1 (show (0 + ((-1) * ρ 2 + (1 * ρ 17 + 0)) : Int) ≤ 0 by omega) (pAll1 (show (1 + ((-1) * ρ 2 + (1 * ρ 17 + 0)) : Int) ≤ 0 by omega) (pAll1 (show (1 + ((-1) * ρ 18 + 0) : Int) ≤ 0 by omega) (pAll1 (show ((-101) + (1 * ρ 18 + 0) : Int) ≤ 0 by omega) (pAll1 (show (101 + ((-1) * ρ 18 + 0) : Int) ≤ 0 by omega) (pAll1 (show (0 + (1 * ρ 6 + 0) : Int) ≤ 0 by omega) (pAll1 (show (0 + ((-1) * ρ 6 + 0) : Int) ≤ 0 by omega) (pAll1 (show (1 + (1 * ρ 17 + ((-1) * ((wSk (wN h) (wB h) ((wSk (wN h) (wB h) (p)) + 1)) : Int) + 0)) : Int) ≤ 0 by omega) (pAll1 (show (0 + ((-1) * ρ 2 + (1 * ((wSk (wN h) (wB h) ((wSk (wN h) (wB h) (p)) + 1)) : Int) + 0)) : Int) ≤ 0 by omega) (pAll1 (show (1 + (1 * ((wSk (wN h) (wB h) ((wSk (wN h) (wB h) (p)) + 1)) : Int) + ((-1) * (e : Int) + 0)) : Int) ≤ 0 by omega) (pAll1 (show (0 + ((-1) * ρ 2 + (1 * (e : Int) + 0)) : Int) ≤ 0 by omega) (pAll1 (show (0 + ((-1) * (w : Int) + 0) : Int) ≤ 0 by omega) (pAll1 (show ((-9) + (1 * (w : Int) + 0) : Int) ≤ 0 by omega) (pAll0))))))))))))))
            · exact pAll1 (pgS ho hh ((wSk (wN h) (wB h) (p)) + 1) (by omega) (show (1 + (1 * ρ 17 + 0) : Int) = _ by omega) (show (0 + (1 * ((wSk (wN h) (wB h) ((wSk (wN h) (wB h) (p)) + 1)) : Int) + 0) : Int) = _ by omega)) (pAll1 (pgF hf 542 (by decide) (by decide) ((wSk (wN h) (wB h) ((wSk (wN h) (wB h) (p)) + 1))) (by omega) (show (0 + (1 * ((wSk (wN h) (wB h) ((wSk (wN h) (wB h) (p)) + 1)) : Int) + 0) : Int) = _ by omega) (show (0 + (1 * (e : Int) + 0) : Int) = _ by rw [fA_NR d0 hn]; omega)) (pAll1 (pgF hf 543 (by decide) (by decide) ((wSk (wN h) (wB h) ((wSk (wN h) (wB h) (p)) + 1))) (by omega) (show (0 + (1 * ((wSk (wN h) (wB h) ((wSk (wN h) (wB h) (p)) + 1)) : Int) + 0) : Int) = _ by omega) (show (0 + (1 * (w : Int) + 0) : Int) = _ by rw [fA_NV d4 d5]; omega)) (pAll1 (pgF hf 531 (by decide) (by decide) (16 * e + (g + 4)) (by omega) (show (4 + (1 * ρ 4 + (2 * ρ 5 + (4 * ρ 6 + (8 * ρ 7 + (16 * (e : Int) + 0))))) : Int) = _ by omega) (show (0 + (1 * ρ 16 + 0) : Int) = _ by rw [fA_IT1 (g := g + 4) d9 d3 hn]; omega)) (pAll1 (pgF hf 563 (by decide) (by decide) (1600 * e + 100 * (g + 4) + v0) (by omega) (show (400 + (100 * ρ 4 + (200 * ρ 5 + (400 * ρ 6 + (800 * ρ 7 + (1 * ρ 8 + (1600 * (e : Int) + 0)))))) : Int) = _ by omega) (show (0 + (1 * ρ 12 + 0) : Int) = _ by rw [fA_I (s := 1) (j := 0) (r := 563) (g := g + 4) (v := v0) (Or.inr ⟨rfl, rfl, by decide⟩) d9 d3 (by omega)]; omega)) (pAll1 (pgF hf 564 (by decide) (by decide) (1600 * e + 100 * (g + 4) + v1) (by omega) (show (400 + (100 * ρ 4 + (200 * ρ 5 + (400 * ρ 6 + (800 * ρ 7 + (1 * ρ 9 + (1600 * (e : Int) + 0)))))) : Int) = _ by omega) (show (0 + (1 * ρ 13 + 0) : Int) = _ by rw [fA_I (s := 1) (j := 1) (r := 564) (g := g + 4) (v := v1) (Or.inr ⟨rfl, rfl, by decide⟩) d9 d3 (by omega)]; omega)) (pAll1 (pgF hf 565 (by decide) (by decide) (1600 * e + 100 * (g + 4) + w) (by omega) (show (400 + (100 * ρ 4 + (200 * ρ 5 + (400 * ρ 6 + (800 * ρ 7 + (1600 * (e : Int) + (1 * (w : Int) + 0)))))) : Int) = _ by omega) (show (0 + (1 * ρ 14 + 0) : Int) = _ by rw [fA_I (s := 1) (j := 2) (r := 565) (g := g + 4) (v := w) (Or.inr ⟨rfl, rfl, by decide⟩) d9 d3 (by omega)]; omega)) (pAll1 (pgF hf 566 (by decide) (by decide) (1600 * e + 100 * (g + 4) + v3) (by omega) (show (400 + (100 * ρ 4 + (200 * ρ 5 + (400 * ρ 6 + (800 * ρ 7 + (1 * ρ 11 + (1600 * (e : Int) + 0)))))) : Int) = _ by omega) (show (0 + (1 * ρ 15 + 0) : Int) = _ by rw [fA_I (s := 1) (j := 3) (r := 566) (g := g + 4) (v := v3) (Or.inr ⟨rfl, rfl, by decide⟩) d9 d3 (by omega)]; omega)) (pAll0))))))))
    · rcases hc with ⟨c8, c9⟩ | ⟨c8, c9, d0, d⟩
      · rw [c9] at er
        unfold wFl at er
        rw [c8] at hb3
        refine ⟨rIT1c_16, List.mem_of_getElem? (i := 16) rfl, pEnd [ρ 0, ρ 1, ρ 2, ρ 3, ρ 4, ρ 5, ρ 6, ρ 7, ρ 8, ρ 9, ρ 10, ρ 11, ρ 12, ρ 13, ρ 14, ρ 15, ρ 16, ρ 17, ρ 18] rfl ?_ ?_ ?_ ?_⟩
        · exact hL
        · intro k b hk
          cases hk
        · exact pAll1 (show (0 + (1 * ρ 3 + ((-1) * ρ 17 + 0)) : Int) ≤ 0 by omega) (pAll1 (show (0 + ((-1) * ρ 2 + (1 * ρ 17 + 0)) : Int) ≤ 0 by omega) (pAll1 (show (1 + ((-1) * ρ 2 + (1 * ρ 17 + 0)) : Int) ≤ 0 by omega) (pAll1 (show (1 + ((-1) * ρ 18 + 0) : Int) ≤ 0 by omega) (pAll1 (show ((-98) + (1 * ρ 18 + 0) : Int) ≤ 0 by omega) (pAll1 (show (98 + ((-1) * ρ 18 + 0) : Int) ≤ 0 by omega) (pAll1 (show ((-1) + (1 * ρ 7 + 0) : Int) ≤ 0 by omega) (pAll1 (show (1 + ((-1) * ρ 7 + 0) : Int) ≤ 0 by omega) (pAll1 (show (1 + (1 * ρ 16 + (1 * ρ 17 + 0)) : Int) ≤ 0 by omega) (pAll1 (show ((-1) + ((-1) * ρ 16 + ((-1) * ρ 17 + 0)) : Int) ≤ 0 by omega) (pAll0))))))))))
        · exact pAll0
      · rw [c8] at hb3
        have c9 : (wSk (wN h) (wB h) (p)) + 1 ≤ (wSk (wN h) (wB h) ((wSk (wN h) (wB h) (p)) + 1)) := c9
        have d0 : (wSk (wN h) (wB h) ((wSk (wN h) (wB h) (p)) + 1)) ≤ wN h := d0
        rcases d with ⟨d1, d2, d3, d4⟩ | ⟨e, d1, d2, d3, d4, d5, d6⟩
        · have d1 : (fNr (wN h) (wB h) (wSk (wN h) (wB h) ((wSk (wN h) (wB h) (p)) + 1))) < 0 := d1
          have d2 : (fI (wN h) (wB h) 1 (g) (p)) = (fNr (wN h) (wB h) (wSk (wN h) (wB h) ((wSk (wN h) (wB h) (p)) + 1))) := d2
          have d3 : ((wSk (wN h) (wB h) ((wSk (wN h) (wB h) (p)) + 1)) : Int) ≤ -(fNr (wN h) (wB h) (wSk (wN h) (wB h) ((wSk (wN h) (wB h) (p)) + 1))) - 1 := d3
          have d4 : -(fNr (wN h) (wB h) (wSk (wN h) (wB h) ((wSk (wN h) (wB h) (p)) + 1))) - 1 ≤ (wN h : Int) := d4
          rw [d2] at er
          refine ⟨rIT1c_17, List.mem_of_getElem? (i := 17) rfl, pEnd [ρ 0, ρ 1, ρ 2, ρ 3, ρ 4, ρ 5, ρ 6, ρ 7, ρ 8, ρ 9, ρ 10, ρ 11, ρ 12, ρ 13, ρ 14, ρ 15, ρ 16, ρ 17, ρ 18, ((wSk (wN h) (wB h) ((wSk (wN h) (wB h) (p)) + 1)) : Int), (fNr (wN h) (wB h) (wSk (wN h) (wB h) ((wSk (wN h) (wB h) (p)) + 1)))] rfl ?_ ?_ ?_ ?_⟩
          · intro j hj
            match j, hj with
            | 0, _ => exact q0.symm
            | 1, _ => exact q1.symm
            | 2, _ => exact q2.symm
            | 3, _ => exact q3.symm
            | 4, _ => exact q4.symm
            | 5, _ => exact q5.symm
            | 6, _ => exact q6.symm
            | 7, _ => exact q7.symm
            | 8, _ => exact q8.symm
            | 9, _ => exact q9.symm
            | 10, _ => exact q10.symm
            | 11, _ => exact q11.symm
            | 12, _ => exact q12.symm
            | 13, _ => exact q13.symm
            | 14, _ => exact q14.symm
            | 15, _ => exact q15.symm
            | 16, _ => exact q16.symm
            | 17, _ => exact q17.symm
            | 18, _ => exact q18.symm
            | k + 19, hj => exact absurd hj (by show ¬ (k + 19 < 19); omega)
          · intro k b hk
            match k, hk with
            | 0, hk => cases hk; exact (show (0 : Int) ≤ ((wSk (wN h) (wB h) ((wSk (wN h) (wB h) (p)) + 1)) : Int) ∧ ((wSk (wN h) (wB h) ((wSk (wN h) (wB h) (p)) + 1)) : Int) ≤ (240 : Int) by omega)
            | 1, hk => cases hk; exact (show ((-241) : Int) ≤ (fNr (wN h) (wB h) (wSk (wN h) (wB h) ((wSk (wN h) (wB h) (p)) + 1))) ∧ (fNr (wN h) (wB h) (wSk (wN h) (wB h) ((wSk (wN h) (wB h) (p)) + 1))) ≤ ((-1) : Int) by omega)
            | k + 2, hk => cases hk
          · exact pAll1 (show (0 + (1 * ρ 3 + ((-1) * ρ 17 + 0)) : Int) ≤ 0 by omega) (pAll1 (show (0 + ((-1) * ρ 2 + (1 * ρ 17 + 0)) : Int) ≤ 0 by omega) (pAll1 (show (1 + ((-1) * ρ 2 + (1 * ρ 17 + 0)) : Int) ≤ 0 by omega) (pAll1 (show (1 + ((-1) * ρ 18 + 0) : Int) ≤ 0 by omega) (pAll1 (show ((-98) + (1 * ρ 18 + 0) : Int) ≤ 0 by omega) (pAll1 (show (98 + ((-1) * ρ 18 + 0) : Int) ≤ 0 by omega) (pAll1 (show (0 + (1 * ρ 7 + 0) : Int) ≤ 0 by omega) (pAll1 (show (0 + ((-1) * ρ 7 + 0) : Int) ≤ 0 by omega) (pAll1 (show (1 + (1 * ρ 17 + ((-1) * ((wSk (wN h) (wB h) ((wSk (wN h) (wB h) (p)) + 1)) : Int) + 0)) : Int) ≤ 0 by omega) (pAll1 (show (0 + ((-1) * ρ 2 + (1 * ((wSk (wN h) (wB h) ((wSk (wN h) (wB h) (p)) + 1)) : Int) + 0)) : Int) ≤ 0 by omega) (pAll1 (show (0 + (1 * ρ 16 + ((-1) * (fNr (wN h) (wB h) (wSk (wN h) (wB h) ((wSk (wN h) (wB h) (p)) + 1))) + 0)) : Int) ≤ 0 by omega) (pAll1 (show (0 + ((-1) * ρ 16 + (1 * (fNr (wN h) (wB h) (wSk (wN h) (wB h) ((wSk (wN h) (wB h) (p)) + 1))) + 0)) : Int) ≤ 0 by omega) (pAll1 (show (1 + (1 * ((wSk (wN h) (wB h) ((wSk (wN h) (wB h) (p)) + 1)) : Int) + (1 * (fNr (wN h) (wB h) (wSk (wN h) (wB h) ((wSk (wN h) (wB h) (p)) + 1))) + 0)) : Int) ≤ 0 by omega) (pAll1 (show ((-1) + ((-1) * ρ 2 + ((-1) * (fNr (wN h) (wB h) (wSk (wN h) (wB h) ((wSk (wN h) (wB h) (p)) + 1))) + 0)) : Int) ≤ 0 by omega) (pAll0))))))))))))))
          · exact pAll1 (pgS ho hh ((wSk (wN h) (wB h) (p)) + 1) (by omega) (show (1 + (1 * ρ 17 + 0) : Int) = _ by omega) (show (0 + (1 * ((wSk (wN h) (wB h) ((wSk (wN h) (wB h) (p)) + 1)) : Int) + 0) : Int) = _ by omega)) (pAll1 (pgF hf 542 (by decide) (by decide) ((wSk (wN h) (wB h) ((wSk (wN h) (wB h) (p)) + 1))) (by omega) (show (0 + (1 * ((wSk (wN h) (wB h) ((wSk (wN h) (wB h) (p)) + 1)) : Int) + 0) : Int) = _ by omega) (show (0 + (1 * (fNr (wN h) (wB h) (wSk (wN h) (wB h) ((wSk (wN h) (wB h) (p)) + 1))) + 0) : Int) = _ by rw [fA_NR d0 hn]; omega)) (pAll0))
        · have d1 : (fNr (wN h) (wB h) (wSk (wN h) (wB h) ((wSk (wN h) (wB h) (p)) + 1))) = (e : Int) := d1
          have d2 : (wSk (wN h) (wB h) ((wSk (wN h) (wB h) (p)) + 1)) < e := d2
          have d4 : 0 ≤ (fNv (wN h) (wB h) (wSk (wN h) (wB h) ((wSk (wN h) (wB h) (p)) + 1))) := d4
          have d5 : (fNv (wN h) (wB h) (wSk (wN h) (wB h) ((wSk (wN h) (wB h) (p)) + 1))) ≤ 99 := d5
          obtain ⟨w, ew⟩ : ∃ w : Nat, (fNv (wN h) (wB h) (wSk (wN h) (wB h) ((wSk (wN h) (wB h) (p)) + 1))) = (w : Int) := ⟨(fNv (wN h) (wB h) (wSk (wN h) (wB h) ((wSk (wN h) (wB h) (p)) + 1))).toNat, by omega⟩
          have l1 : fLo 1 3 = 0 := rfl
          have l2 : fHi 1 3 = 9 := rfl
          rw [l1, l2] at d6
          rcases d6 with ⟨d7, d8⟩ | ⟨d7, d8, d9, d10, d11⟩
          · rw [d8] at er
            have d7 : (fNv (wN h) (wB h) (wSk (wN h) (wB h) ((wSk (wN h) (wB h) (p)) + 1))) < 0 ∨ 9 < (fNv (wN h) (wB h) (wSk (wN h) (wB h) ((wSk (wN h) (wB h) (p)) + 1))) := d7
            rcases d7 with d7 | d7
            · omega
            · refine ⟨rIT1c_19, List.mem_of_getElem? (i := 19) rfl, pEnd [ρ 0, ρ 1, ρ 2, ρ 3, ρ 4, ρ 5, ρ 6, ρ 7, ρ 8, ρ 9, ρ 10, ρ 11, ρ 12, ρ 13, ρ 14, ρ 15, ρ 16, ρ 17, ρ 18, ((wSk (wN h) (wB h) ((wSk (wN h) (wB h) (p)) + 1)) : Int), (e : Int), (w : Int)] rfl ?_ ?_ ?_ ?_⟩
              · intro j hj
                match j, hj with
                | 0, _ => exact q0.symm
                | 1, _ => exact q1.symm
                | 2, _ => exact q2.symm
                | 3, _ => exact q3.symm
                | 4, _ => exact q4.symm
                | 5, _ => exact q5.symm
                | 6, _ => exact q6.symm
                | 7, _ => exact q7.symm
                | 8, _ => exact q8.symm
                | 9, _ => exact q9.symm
                | 10, _ => exact q10.symm
                | 11, _ => exact q11.symm
                | 12, _ => exact q12.symm
                | 13, _ => exact q13.symm
                | 14, _ => exact q14.symm
                | 15, _ => exact q15.symm
                | 16, _ => exact q16.symm
                | 17, _ => exact q17.symm
                | 18, _ => exact q18.symm
                | k + 19, hj => exact absurd hj (by show ¬ (k + 19 < 19); omega)
              · intro k b hk
                match k, hk with
                | 0, hk => cases hk; exact (show (0 : Int) ≤ ((wSk (wN h) (wB h) ((wSk (wN h) (wB h) (p)) + 1)) : Int) ∧ ((wSk (wN h) (wB h) ((wSk (wN h) (wB h) (p)) + 1)) : Int) ≤ (240 : Int) by omega)
                | 1, hk => cases hk; exact (show (0 : Int) ≤ (e : Int) ∧ (e : Int) ≤ (240 : Int) by omega)
                | 2, hk => cases hk; exact (show (0 : Int) ≤ (w : Int) ∧ (w : Int) ≤ (99 : Int) by omega)
                | k + 3, hk => cases hk
              · exact pAll1 (show (0 + (1 * ρ 3 + ((-1) * ρ 17 + 0)) : Int) ≤ 0 by omega) (pAll1 (show (0 + ((-1) * ρ 2 + (1 * ρ 17 + 0)) : Int) ≤ 0 by omega) (pAll1 (show (1 + ((-1) * ρ 2 + (1 * ρ 17 + 0)) : Int) ≤ 0 by omega) (pAll1 (show (1 + ((-1) * ρ 18 + 0) : Int) ≤ 0 by omega) (pAll1 (show ((-98) + (1 * ρ 18 + 0) : Int) ≤ 0 by omega) (pAll1 (show (98 + ((-1) * ρ 18 + 0) : Int) ≤ 0 by omega) (pAll1 (show (0 + (1 * ρ 7 + 0) : Int) ≤ 0 by omega) (pAll1 (show (0 + ((-1) * ρ 7 + 0) : Int) ≤ 0 by omega) (pAll1 (show (1 + (1 * ρ 17 + ((-1) * ((wSk (wN h) (wB h) ((wSk (wN h) (wB h) (p)) + 1)) : Int) + 0)) : Int) ≤ 0 by omega) (pAll1 (show (0 + ((-1) * ρ 2 + (1 * ((wSk (wN h) (wB h) ((wSk (wN h) (wB h) (p)) + 1)) : Int) + 0)) : Int) ≤ 0 by omega) (pAll1 (show (1 + (1 * ((wSk (wN h) (wB h) ((wSk (wN h) (wB h) (p)) + 1)) : Int) + ((-1) * (e : Int) + 0)) : Int) ≤ 0 by omega) (pAll1 (show (0 + ((-1) * ρ 2 + (1 * (e : Int) + 0)) : Int) ≤ 0 by omega) (pAll1 (show (10 + ((-1) * (w : Int) + 0) : Int) ≤ 0 by omega) (pAll1 (show (0 + (1 * ρ 16 + (1 * (e : Int) + 0)) : Int) ≤ 0 by omega) (pAll1 (show (0 + ((-1) * ρ 16 + ((-1) * (e : Int) + 0)) : Int) ≤ 0 by omega) (pAll0)))))))))))))))
              · exact pAll1 (pgS ho hh ((wSk (wN h) (wB h) (p)) + 1) (by omega) (show (1 + (1 * ρ 17 + 0) : Int) = _ by omega) (show (0 + (1 * ((wSk (wN h) (wB h) ((wSk (wN h) (wB h) (p)) + 1)) : Int) + 0) : Int) = _ by omega)) (pAll1 (pgF hf 542 (by decide) (by decide) ((wSk (wN h) (wB h) ((wSk (wN h) (wB h) (p)) + 1))) (by omega) (show (0 + (1 * ((wSk (wN h) (wB h) ((wSk (wN h) (wB h) (p)) + 1)) : Int) + 0) : Int) = _ by omega) (show (0 + (1 * (e : Int) + 0) : Int) = _ by rw [fA_NR d0 hn]; omega)) (pAll1 (pgF hf 543 (by decide) (by decide) ((wSk (wN h) (wB h) ((wSk (wN h) (wB h) (p)) + 1))) (by omega) (show (0 + (1 * ((wSk (wN h) (wB h) ((wSk (wN h) (wB h) (p)) + 1)) : Int) + 0) : Int) = _ by omega) (show (0 + (1 * (w : Int) + 0) : Int) = _ by rw [fA_NV d4 d5]; omega)) (pAll0)))
          · have d7 : 0 ≤ (fNv (wN h) (wB h) (wSk (wN h) (wB h) ((wSk (wN h) (wB h) (p)) + 1))) := d7
            have d8 : (fNv (wN h) (wB h) (wSk (wN h) (wB h) ((wSk (wN h) (wB h) (p)) + 1))) ≤ 9 := d8
            have d9 : g + 8 < 16 := d9
            have d10 : (fI (wN h) (wB h) 1 (g) (p)) = (fI (wN h) (wB h) 1 (g + 8) (e)) := d10
            rw [d10] at er
            have x0 : (fV (wN h) (wB h) 1 0 (g) (p) (v0 : Int)) = (fV (wN h) (wB h) 1 0 (g + 8) (e) (v0 : Int)) := by
              have y := d11 0 (v0 : Int)
              rw [if_neg (by decide)] at y
              exact y
            rw [x0] at ef0
            have x1 : (fV (wN h) (wB h) 1 1 (g) (p) (v1 : Int)) = (fV (wN h) (wB h) 1 1 (g + 8) (e) (v1 : Int)) := by
              have y := d11 1 (v1 : Int)
              rw [if_neg (by decide)] at y
              exact y
            rw [x1] at ef1
            have x2 : (fV (wN h) (wB h) 1 2 (g) (p) (v2 : Int)) = (fV (wN h) (wB h) 1 2 (g + 8) (e) (v2 : Int)) := by
              have y := d11 2 (v2 : Int)
              rw [if_neg (by decide)] at y
              exact y
            rw [x2] at ef2
            have x3 : (fV (wN h) (wB h) 1 3 (g) (p) (v3 : Int)) = (fV (wN h) (wB h) 1 3 (g + 8) (e) (w : Int)) := by
              have y := d11 3 (v3 : Int)
              rw [if_pos rfl] at y
              have y : (fV (wN h) (wB h) 1 3 (g) (p) (v3 : Int)) = (fV (wN h) (wB h) 1 3 (g + 8) (e) (fNv (wN h) (wB h) (wSk (wN h) (wB h) ((wSk (wN h) (wB h) (p)) + 1)))) := y
              rw [ew] at y
              exact y
            rw [x3] at ef3
            refine ⟨rIT1c_18, List.mem_of_getElem? (i := 18) rfl, pEnd [ρ 0, ρ 1, ρ 2, ρ 3, ρ 4, ρ 5, ρ 6, ρ 7, ρ 8, ρ 9, ρ 10, ρ 11, ρ 12, ρ 13, ρ 14, ρ 15, ρ 16, ρ 17, ρ 18, ((wSk (wN h) (wB h) ((wSk (wN h) (wB h) (p)) + 1)) : Int), (e : Int), (w : Int)] rfl ?_ ?_ ?_ ?_⟩
            · intro j hj
              match j, hj with
              | 0, _ => exact q0.symm
              | 1, _ => exact q1.symm
              | 2, _ => exact q2.symm
              | 3, _ => exact q3.symm
              | 4, _ => exact q4.symm
              | 5, _ => exact q5.symm
              | 6, _ => exact q6.symm
              | 7, _ => exact q7.symm
              | 8, _ => exact q8.symm
              | 9, _ => exact q9.symm
              | 10, _ => exact q10.symm
              | 11, _ => exact q11.symm
              | 12, _ => exact q12.symm
              | 13, _ => exact q13.symm
              | 14, _ => exact q14.symm
              | 15, _ => exact q15.symm
              | 16, _ => exact q16.symm
              | 17, _ => exact q17.symm
              | 18, _ => exact q18.symm
              | k + 19, hj => exact absurd hj (by show ¬ (k + 19 < 19); omega)
            · intro k b hk
              match k, hk with
              | 0, hk => cases hk; exact (show (0 : Int) ≤ ((wSk (wN h) (wB h) ((wSk (wN h) (wB h) (p)) + 1)) : Int) ∧ ((wSk (wN h) (wB h) ((wSk (wN h) (wB h) (p)) + 1)) : Int) ≤ (240 : Int) by omega)
              | 1, hk => cases hk; exact (show (0 : Int) ≤ (e : Int) ∧ (e : Int) ≤ (240 : Int) by omega)
              | 2, hk => cases hk; exact (show (0 : Int) ≤ (w : Int) ∧ (w : Int) ≤ (99 : Int) by omega)
              | k + 3, hk => cases hk
            · exact pAll1 (show (0 + (1 * ρ 3 + ((-1) * ρ 17 + 0)) : Int) ≤ 0 by omega) (pAll1 (show (0 + ((-1) * ρ 2 + (1 * ρ 17 + 0)) : Int) ≤ 0 by omega) (pAll1 (show (1 + ((-1) * ρ 2 + (1 * ρ 17 + 0)) : Int) ≤ 0 by omega) (pAll1 (show (1 + ((-1) * ρ 18 + 0) : Int) ≤ 0 by omega) (pAll1 (show ((-98) + (1 * ρ 18 + 0) : Int) ≤ 0 by omega) (pAll1 (show (98 + ((-1) * ρ 18 + 0) : Int) ≤ 0 by omega) (pAll1 (show (0 + (1 * ρ 7 + 0) : Int) ≤ 0 by omega) (pAll1 (show (0 + ((-1) * ρ 7 + 0) : Int) ≤ 0 by omega) (pAll1 (show (1 + (1 * ρ 17 + ((-1) * ((wSk (wN h) (wB h) ((wSk (wN h) (wB h) (p)) + 1)) : Int) + 0)) : Int) ≤ 0 by omega) (pAll1 (show (0 + ((-1) * ρ 2 + (1 * ((wSk (wN h) (wB h) ((wSk (wN h) (wB h) (p)) + 1)) : Int) + 0)) : Int) ≤ 0 by omega) (pAll1 (show (1 + (1 * ((wSk (wN h) (wB h) ((wSk (wN h) (wB h) (p)) + 1)) : Int) + ((-1) * (e : Int) + 0)) : Int) ≤ 0 by omega) (pAll1 (show (0 + ((-1) * ρ 2 + (1 * (e : Int) + 0)) : Int) ≤ 0 by omega) (pAll1 (show (0 + ((-1) * (w : Int) + 0) : Int) ≤ 0 by omega) (pAll1 (show ((-9) + (1 * (w : Int) + 0) : Int) ≤ 0 by omega) (pAll0))))))))))))))
            · exact pAll1 (pgS ho hh ((wSk (wN h) (wB h) (p)) + 1) (by omega) (show (1 + (1 * ρ 17 + 0) : Int) = _ by omega) (show (0 + (1 * ((wSk (wN h) (wB h) ((wSk (wN h) (wB h) (p)) + 1)) : Int) + 0) : Int) = _ by omega)) (pAll1 (pgF hf 542 (by decide) (by decide) ((wSk (wN h) (wB h) ((wSk (wN h) (wB h) (p)) + 1))) (by omega) (show (0 + (1 * ((wSk (wN h) (wB h) ((wSk (wN h) (wB h) (p)) + 1)) : Int) + 0) : Int) = _ by omega) (show (0 + (1 * (e : Int) + 0) : Int) = _ by rw [fA_NR d0 hn]; omega)) (pAll1 (pgF hf 543 (by decide) (by decide) ((wSk (wN h) (wB h) ((wSk (wN h) (wB h) (p)) + 1))) (by omega) (show (0 + (1 * ((wSk (wN h) (wB h) ((wSk (wN h) (wB h) (p)) + 1)) : Int) + 0) : Int) = _ by omega) (show (0 + (1 * (w : Int) + 0) : Int) = _ by rw [fA_NV d4 d5]; omega)) (pAll1 (pgF hf 531 (by decide) (by decide) (16 * e + (g + 8)) (by omega) (show (8 + (1 * ρ 4 + (2 * ρ 5 + (4 * ρ 6 + (8 * ρ 7 + (16 * (e : Int) + 0))))) : Int) = _ by omega) (show (0 + (1 * ρ 16 + 0) : Int) = _ by rw [fA_IT1 (g := g + 8) d9 d3 hn]; omega)) (pAll1 (pgF hf 563 (by decide) (by decide) (1600 * e + 100 * (g + 8) + v0) (by omega) (show (800 + (100 * ρ 4 + (200 * ρ 5 + (400 * ρ 6 + (800 * ρ 7 + (1 * ρ 8 + (1600 * (e : Int) + 0)))))) : Int) = _ by omega) (show (0 + (1 * ρ 12 + 0) : Int) = _ by rw [fA_I (s := 1) (j := 0) (r := 563) (g := g + 8) (v := v0) (Or.inr ⟨rfl, rfl, by decide⟩) d9 d3 (by omega)]; omega)) (pAll1 (pgF hf 564 (by decide) (by decide) (1600 * e + 100 * (g + 8) + v1) (by omega) (show (800 + (100 * ρ 4 + (200 * ρ 5 + (400 * ρ 6 + (800 * ρ 7 + (1 * ρ 9 + (1600 * (e : Int) + 0)))))) : Int) = _ by omega) (show (0 + (1 * ρ 13 + 0) : Int) = _ by rw [fA_I (s := 1) (j := 1) (r := 564) (g := g + 8) (v := v1) (Or.inr ⟨rfl, rfl, by decide⟩) d9 d3 (by omega)]; omega)) (pAll1 (pgF hf 565 (by decide) (by decide) (1600 * e + 100 * (g + 8) + v2) (by omega) (show (800 + (100 * ρ 4 + (200 * ρ 5 + (400 * ρ 6 + (800 * ρ 7 + (1 * ρ 10 + (1600 * (e : Int) + 0)))))) : Int) = _ by omega) (show (0 + (1 * ρ 14 + 0) : Int) = _ by rw [fA_I (s := 1) (j := 2) (r := 565) (g := g + 8) (v := v2) (Or.inr ⟨rfl, rfl, by decide⟩) d9 d3 (by omega)]; omega)) (pAll1 (pgF hf 566 (by decide) (by decide) (1600 * e + 100 * (g + 8) + w) (by omega) (show (800 + (100 * ρ 4 + (200 * ρ 5 + (400 * ρ 6 + (800 * ρ 7 + (1600 * (e : Int) + (1 * (w : Int) + 0)))))) : Int) = _ by omega) (show (0 + (1 * ρ 15 + 0) : Int) = _ by rw [fA_I (s := 1) (j := 3) (r := 566) (g := g + 8) (v := w) (Or.inr ⟨rfl, rfl, by decide⟩) d9 d3 (by omega)]; omega)) (pAll0))))))))
    · omega
noncomputable def rNRc_0 : sX := (none, [], [], [(0, [(3, 1), (4, (-1))]), (0, [(2, (-1)), (4, 1)]), ((-47), [(5, 1)]), (1, [(4, 1), (6, 1)]), ((-1), [(4, (-1)), (6, (-1))])], [])
noncomputable def rNRc_1 : sX := (none, [], [], [(0, [(3, 1), (4, (-1))]), (0, [(2, (-1)), (4, 1)]), (58, [(5, (-1))]), (1, [(4, 1), (6, 1)]), ((-1), [(4, (-1)), (6, (-1))])], [])
noncomputable def rNRc_2 : sX := (none, [], [], [(0, [(3, 1), (4, (-1))]), (0, [(2, (-1)), (4, 1)]), (1, [(2, (-1)), (4, 1)]), (1, [(5, (-1))]), (1, [(2, (-1)), (4, 1)]), (48, [(5, (-1))]), ((-57), [(5, 1)]), ((-47), [(8, 1)]), ((-1), [(4, (-1)), (6, 1)]), (1, [(4, 1), (6, (-1))]), (48, [(5, (-1)), (7, 1)]), ((-48), [(5, 1), (7, (-1))])], [])
noncomputable def rNRc_3 : sX := (none, [], [], [(0, [(3, 1), (4, (-1))]), (0, [(2, (-1)), (4, 1)]), (1, [(2, (-1)), (4, 1)]), (1, [(5, (-1))]), (1, [(2, (-1)), (4, 1)]), (48, [(5, (-1))]), ((-57), [(5, 1)]), (58, [(8, (-1))]), ((-1), [(4, (-1)), (6, 1)]), (1, [(4, 1), (6, (-1))]), (48, [(5, (-1)), (7, 1)]), ((-48), [(5, 1), (7, (-1))])], [])
noncomputable def rNRc_4 : sX := (none, [], [], [(0, [(3, 1), (4, (-1))]), (0, [(2, (-1)), (4, 1)]), (1, [(2, (-1)), (4, 1)]), (1, [(5, (-1))]), (3, [(2, (-1)), (4, 1)]), (48, [(5, (-1))]), ((-57), [(5, 1)]), (48, [(8, (-1))]), ((-57), [(8, 1)]), (48, [(9, (-1))]), ((-57), [(9, 1)]), (3, [(4, 1), (6, 1)]), ((-3), [(4, (-1)), (6, (-1))])], [])
noncomputable def rNRc_5 : sX := (none, [], [], [(0, [(3, 1), (4, (-1))]), (0, [(2, (-1)), (4, 1)]), (1, [(2, (-1)), (4, 1)]), (1, [(5, (-1))]), (2, [(2, (-1)), (4, 1)]), (48, [(5, (-1))]), ((-57), [(5, 1)]), (48, [(8, (-1))]), ((-57), [(8, 1)]), ((-47), [(9, 1)]), ((-2), [(4, (-1)), (6, 1)]), (2, [(4, 1), (6, (-1))]), (528, [(5, (-10)), (7, 1), (8, (-1))]), ((-528), [(5, 10), (7, (-1)), (8, 1)])], [])
noncomputable def rNRc_6 : sX := (none, [], [], [(0, [(3, 1), (4, (-1))]), (0, [(2, (-1)), (4, 1)]), (1, [(2, (-1)), (4, 1)]), (1, [(5, (-1))]), (2, [(2, (-1)), (4, 1)]), (48, [(5, (-1))]), ((-57), [(5, 1)]), (48, [(8, (-1))]), ((-57), [(8, 1)]), (58, [(9, (-1))]), ((-2), [(4, (-1)), (6, 1)]), (2, [(4, 1), (6, (-1))]), (528, [(5, (-10)), (7, 1), (8, (-1))]), ((-528), [(5, 10), (7, (-1)), (8, 1)])], [])
noncomputable def rNRc : sQ := (0, ([], [(2, 1000, (0, [])), (2, 1020, (0, [])), (2, 41, (1, [])), (2, 41, (2, [])), (2, 500, (0, [(3, 1)])), (2, 501, (0, [(4, 1)])), (2, 542, (0, [(4, 1)])), (2, 543, (0, [(4, 1)])), (2, 501, (1, [(4, 1)])), (2, 501, (2, [(4, 1)]))], [(1, 1), (1, 1), (0, 240), (0, 240), (0, 240), (0, 255), ((-241), 240), (0, 99), (0, 255), (0, 255)], [(0, [(2, (-1)), (3, 1)])], [(0, 0), (1, 1), (2, 2), (3, 3), (4, 4), (5, 5), (6, 6), (7, 7), (8, 8), (9, 9)], (0, [])), [rNRc_0, rNRc_1, rNRc_2, rNRc_3, rNRc_4, rNRc_5, rNRc_6], [], 0)
theorem rNRc_ok : pRul pReg pG pgv (rNRc) := by
  intro loc h ρ ρ0 hG hM
  have hM : sMt pReg pgv ρ ρ0 (sAs (rNRc).2.1) loc [] h := hM
  have q0 : ρ0 1 = ρ 0 := (hM.2.2.2.2.2 (1, sY 0) (List.mem_of_getElem? (i := 1) rfl)).trans (sY_v ρ 0)
  have q1 : ρ0 2 = ρ 1 := (hM.2.2.2.2.2 (2, sY 1) (List.mem_of_getElem? (i := 2) rfl)).trans (sY_v ρ 1)
  have q2 : ρ0 3 = ρ 2 := (hM.2.2.2.2.2 (3, sY 2) (List.mem_of_getElem? (i := 3) rfl)).trans (sY_v ρ 2)
  have q3 : ρ0 4 = ρ 3 := (hM.2.2.2.2.2 (4, sY 3) (List.mem_of_getElem? (i := 4) rfl)).trans (sY_v ρ 3)
  have q4 : ρ0 5 = ρ 4 := (hM.2.2.2.2.2 (5, sY 4) (List.mem_of_getElem? (i := 5) rfl)).trans (sY_v ρ 4)
  have q5 : ρ0 6 = ρ 5 := (hM.2.2.2.2.2 (6, sY 5) (List.mem_of_getElem? (i := 6) rfl)).trans (sY_v ρ 5)
  have q6 : ρ0 7 = ρ 6 := (hM.2.2.2.2.2 (7, sY 6) (List.mem_of_getElem? (i := 7) rfl)).trans (sY_v ρ 6)
  have q7 : ρ0 8 = ρ 7 := (hM.2.2.2.2.2 (8, sY 7) (List.mem_of_getElem? (i := 8) rfl)).trans (sY_v ρ 7)
  have q8 : ρ0 9 = ρ 8 := (hM.2.2.2.2.2 (9, sY 8) (List.mem_of_getElem? (i := 9) rfl)).trans (sY_v ρ 8)
  have q9 : ρ0 10 = ρ 9 := (hM.2.2.2.2.2 (10, sY 9) (List.mem_of_getElem? (i := 10) rfl)).trans (sY_v ρ 9)
  have hL : ∀ j, j < 10 → pL [ρ 0, ρ 1, ρ 2, ρ 3, ρ 4, ρ 5, ρ 6, ρ 7, ρ 8, ρ 9] j = ρ0 (j + 1) := by
    intro j hj
    match j, hj with
    | 0, _ => exact q0.symm
    | 1, _ => exact q1.symm
    | 2, _ => exact q2.symm
    | 3, _ => exact q3.symm
    | 4, _ => exact q4.symm
    | 5, _ => exact q5.symm
    | 6, _ => exact q6.symm
    | 7, _ => exact q7.symm
    | 8, _ => exact q8.symm
    | 9, _ => exact q9.symm
    | k + 10, hj => omega
  have b0 : (1 : Int) ≤ ρ 0 ∧ ρ 0 ≤ 1 := hM.2.2.2.1 0 (1, 1) rfl
  have b1 : (1 : Int) ≤ ρ 1 ∧ ρ 1 ≤ 1 := hM.2.2.2.1 1 (1, 1) rfl
  have b2 : (0 : Int) ≤ ρ 2 ∧ ρ 2 ≤ 240 := hM.2.2.2.1 2 (0, 240) rfl
  have b3 : (0 : Int) ≤ ρ 3 ∧ ρ 3 ≤ 240 := hM.2.2.2.1 3 (0, 240) rfl
  have b4 : (0 : Int) ≤ ρ 4 ∧ ρ 4 ≤ 240 := hM.2.2.2.1 4 (0, 240) rfl
  have b5 : (0 : Int) ≤ ρ 5 ∧ ρ 5 ≤ 255 := hM.2.2.2.1 5 (0, 255) rfl
  have b6 : ((-241) : Int) ≤ ρ 6 ∧ ρ 6 ≤ 240 := hM.2.2.2.1 6 ((-241), 240) rfl
  have b7 : (0 : Int) ≤ ρ 7 ∧ ρ 7 ≤ 99 := hM.2.2.2.1 7 (0, 99) rfl
  have b8 : (0 : Int) ≤ ρ 8 ∧ ρ 8 ≤ 255 := hM.2.2.2.1 8 (0, 255) rfl
  have b9 : (0 : Int) ≤ ρ 9 ∧ ρ 9 ≤ 255 := hM.2.2.2.1 9 (0, 255) rfl
  have c0 : (0 + ((-1) * ρ 2 + (1 * ρ 3 + 0)) : Int) ≤ 0 := hM.2.2.2.2.1 (0, [(2, (-1)), (3, 1)]) (List.mem_of_getElem? (i := 0) rfl)
  obtain ⟨ho, hs, hh⟩ := pTold0 hM 0 (0, []) rfl b0.1
  have hn := ho.1
  obtain ⟨-, -, hf⟩ := pTold20 hM 1 (0, []) rfl b1.1
  have en : ρ 2 = (wN h : Int) := (pPl hM 2 41 (1, []) rfl (by omega) 353 1 (by decide +kernel) rfl).symm.trans hs.1
  obtain ⟨p, ep⟩ : ∃ p : Nat, ρ 3 = (p : Int) := ⟨(ρ 3).toNat, by omega⟩
  have hp : p ≤ wN h := by omega
  obtain ⟨s1, s2⟩ := wSk_le (B := wB h) hp
  have eq : ρ 4 = ((wSk (wN h) (wB h) (p)) : Int) := pfS hM ho hh 4 (0, [(3, 1)]) rfl (p := p) (by omega) (by show (0 + (1 * ρ 3 + 0) : Int) = _; omega)
  have ec : ρ 5 = (wCh (wN h) (wB h) ((wSk (wN h) (wB h) (p)))) := pfC hM ho hh 5 (0, [(4, 1)]) rfl (p := (wSk (wN h) (wB h) (p))) (by omega) (by show (0 + (1 * ρ 4 + 0) : Int) = _; omega)
  have cbc := wCh_bd ho ((wSk (wN h) (wB h) (p)))
  have clc : (wCh (wN h) (wB h) ((wSk (wN h) (wB h) (p)))) ≠ 0 → (wSk (wN h) (wB h) (p)) < wN h := wCh_lt
  have ey : ρ 8 = (wCh (wN h) (wB h) ((wSk (wN h) (wB h) (p)) + 1)) := pfC2 hM ho hh 8 (1, [(4, 1)]) rfl (p := (wSk (wN h) (wB h) (p)) + 1) (by omega) (by show (1 + (1 * ρ 4 + 0) : Int) = _; omega)
  have cby := wCh_bd ho ((wSk (wN h) (wB h) (p)) + 1)
  have ez : ρ 9 = (wCh (wN h) (wB h) ((wSk (wN h) (wB h) (p)) + 2)) := pfC2 hM ho hh 9 (2, [(4, 1)]) rfl (p := (wSk (wN h) (wB h) (p)) + 2) (by omega) (by show (2 + (1 * ρ 4 + 0) : Int) = _; omega)
  have cbz := wCh_bd ho ((wSk (wN h) (wB h) (p)) + 2)
  have ee : ρ 6 = (fNr (wN h) (wB h) (wSk (wN h) (wB h) (p))) := (pfF hM hf 6 542 (0, [(4, 1)]) rfl (by decide) (by decide) ((wSk (wN h) (wB h) (p))) (by omega) (by show (0 + (1 * ρ 4 + 0) : Int) = _; omega)).trans (fA_NR s2 hn)
  have ev : ∀ (a1 : 0 ≤ fNv (wN h) (wB h) (wSk (wN h) (wB h) (p))) (a2 : fNv (wN h) (wB h) (wSk (wN h) (wB h) (p)) ≤ 99), ρ 7 = fNv (wN h) (wB h) (wSk (wN h) (wB h) (p)) := fun a1 a2 => (pfF hM hf 7 543 (0, [(4, 1)]) rfl (by decide) (by decide) ((wSk (wN h) (wB h) (p))) (by omega) (by show (0 + (1 * ρ 4 + 0) : Int) = _; omega)).trans (fA_NV a1 a2)
  have hy : (wCh (wN h) (wB h) ((wSk (wN h) (wB h) (p)) + 1)) ≠ 0 → (wSk (wN h) (wB h) (p)) + 1 < wN h := wCh_lt
  have hz : (wCh (wN h) (wB h) ((wSk (wN h) (wB h) (p)) + 2)) ≠ 0 → (wSk (wN h) (wB h) (p)) + 2 < wN h := wCh_lt
  unfold fNr at ee
  unfold fNv at ev
  by_cases h0 : 48 ≤ (wCh (wN h) (wB h) ((wSk (wN h) (wB h) (p)))) ∧ (wCh (wN h) (wB h) ((wSk (wN h) (wB h) (p)))) ≤ 57
  · have hq := clc (by omega)
    rw [if_pos h0] at ee
    by_cases h1 : 48 ≤ (wCh (wN h) (wB h) ((wSk (wN h) (wB h) (p)) + 1)) ∧ (wCh (wN h) (wB h) ((wSk (wN h) (wB h) (p)) + 1)) ≤ 57
    · have hy1 := hy (by omega)
      rw [if_pos h1] at ee ev
      have ev := ev (by omega) (by omega)
      by_cases h2 : 48 ≤ (wCh (wN h) (wB h) ((wSk (wN h) (wB h) (p)) + 2)) ∧ (wCh (wN h) (wB h) ((wSk (wN h) (wB h) (p)) + 2)) ≤ 57
      · have hz1 := hz (by omega)
        rw [if_pos h2] at ee
        unfold wFl at ee
        refine ⟨rNRc_4, List.mem_of_getElem? (i := 4) rfl, pEnd [ρ 0, ρ 1, ρ 2, ρ 3, ρ 4, ρ 5, ρ 6, ρ 7, ρ 8, ρ 9] rfl ?_ ?_ ?_ ?_⟩
        · exact hL
        · intro k b hk
          cases hk
        · exact pAll1 (show (0 + (1 * ρ 3 + ((-1) * ρ 4 + 0)) : Int) ≤ 0 by omega) (pAll1 (show (0 + ((-1) * ρ 2 + (1 * ρ 4 + 0)) : Int) ≤ 0 by omega) (pAll1 (show (1 + ((-1) * ρ 2 + (1 * ρ 4 + 0)) : Int) ≤ 0 by omega) (pAll1 (show (1 + ((-1) * ρ 5 + 0) : Int) ≤ 0 by omega) (pAll1 (show (3 + ((-1) * ρ 2 + (1 * ρ 4 + 0)) : Int) ≤ 0 by omega) (pAll1 (show (48 + ((-1) * ρ 5 + 0) : Int) ≤ 0 by omega) (pAll1 (show ((-57) + (1 * ρ 5 + 0) : Int) ≤ 0 by omega) (pAll1 (show (48 + ((-1) * ρ 8 + 0) : Int) ≤ 0 by omega) (pAll1 (show ((-57) + (1 * ρ 8 + 0) : Int) ≤ 0 by omega) (pAll1 (show (48 + ((-1) * ρ 9 + 0) : Int) ≤ 0 by omega) (pAll1 (show ((-57) + (1 * ρ 9 + 0) : Int) ≤ 0 by omega) (pAll1 (show (3 + (1 * ρ 4 + (1 * ρ 6 + 0)) : Int) ≤ 0 by omega) (pAll1 (show ((-3) + ((-1) * ρ 4 + ((-1) * ρ 6 + 0)) : Int) ≤ 0 by omega) (pAll0)))))))))))))
        · exact pAll0
      · rw [if_neg h2] at ee
        have hu : (wCh (wN h) (wB h) ((wSk (wN h) (wB h) (p)) + 2)) ≤ 47 ∨ 58 ≤ (wCh (wN h) (wB h) ((wSk (wN h) (wB h) (p)) + 2)) := by omega
        rcases hu with hu | hu
        · refine ⟨rNRc_5, List.mem_of_getElem? (i := 5) rfl, pEnd [ρ 0, ρ 1, ρ 2, ρ 3, ρ 4, ρ 5, ρ 6, ρ 7, ρ 8, ρ 9] rfl ?_ ?_ ?_ ?_⟩
          · exact hL
          · intro k b hk
            cases hk
          · exact pAll1 (show (0 + (1 * ρ 3 + ((-1) * ρ 4 + 0)) : Int) ≤ 0 by omega) (pAll1 (show (0 + ((-1) * ρ 2 + (1 * ρ 4 + 0)) : Int) ≤ 0 by omega) (pAll1 (show (1 + ((-1) * ρ 2 + (1 * ρ 4 + 0)) : Int) ≤ 0 by omega) (pAll1 (show (1 + ((-1) * ρ 5 + 0) : Int) ≤ 0 by omega) (pAll1 (show (2 + ((-1) * ρ 2 + (1 * ρ 4 + 0)) : Int) ≤ 0 by omega) (pAll1 (show (48 + ((-1) * ρ 5 + 0) : Int) ≤ 0 by omega) (pAll1 (show ((-57) + (1 * ρ 5 + 0) : Int) ≤ 0 by omega) (pAll1 (show (48 + ((-1) * ρ 8 + 0) : Int) ≤ 0 by omega) (pAll1 (show ((-57) + (1 * ρ 8 + 0) : Int) ≤ 0 by omega) (pAll1 (show ((-47) + (1 * ρ 9 + 0) : Int) ≤ 0 by omega) (pAll1 (show ((-2) + ((-1) * ρ 4 + (1 * ρ 6 + 0)) : Int) ≤ 0 by omega) (pAll1 (show (2 + (1 * ρ 4 + ((-1) * ρ 6 + 0)) : Int) ≤ 0 by omega) (pAll1 (show (528 + ((-10) * ρ 5 + (1 * ρ 7 + ((-1) * ρ 8 + 0))) : Int) ≤ 0 by omega) (pAll1 (show ((-528) + (10 * ρ 5 + ((-1) * ρ 7 + (1 * ρ 8 + 0))) : Int) ≤ 0 by omega) (pAll0))))))))))))))
          · exact pAll0
        · refine ⟨rNRc_6, List.mem_of_getElem? (i := 6) rfl, pEnd [ρ 0, ρ 1, ρ 2, ρ 3, ρ 4, ρ 5, ρ 6, ρ 7, ρ 8, ρ 9] rfl ?_ ?_ ?_ ?_⟩
          · exact hL
          · intro k b hk
            cases hk
          · exact pAll1 (show (0 + (1 * ρ 3 + ((-1) * ρ 4 + 0)) : Int) ≤ 0 by omega) (pAll1 (show (0 + ((-1) * ρ 2 + (1 * ρ 4 + 0)) : Int) ≤ 0 by omega) (pAll1 (show (1 + ((-1) * ρ 2 + (1 * ρ 4 + 0)) : Int) ≤ 0 by omega) (pAll1 (show (1 + ((-1) * ρ 5 + 0) : Int) ≤ 0 by omega) (pAll1 (show (2 + ((-1) * ρ 2 + (1 * ρ 4 + 0)) : Int) ≤ 0 by omega) (pAll1 (show (48 + ((-1) * ρ 5 + 0) : Int) ≤ 0 by omega) (pAll1 (show ((-57) + (1 * ρ 5 + 0) : Int) ≤ 0 by omega) (pAll1 (show (48 + ((-1) * ρ 8 + 0) : Int) ≤ 0 by omega) (pAll1 (show ((-57) + (1 * ρ 8 + 0) : Int) ≤ 0 by omega) (pAll1 (show (58 + ((-1) * ρ 9 + 0) : Int) ≤ 0 by omega) (pAll1 (show ((-2) + ((-1) * ρ 4 + (1 * ρ 6 + 0)) : Int) ≤ 0 by omega) (pAll1 (show (2 + (1 * ρ 4 + ((-1) * ρ 6 + 0)) : Int) ≤ 0 by omega) (pAll1 (show (528 + ((-10) * ρ 5 + (1 * ρ 7 + ((-1) * ρ 8 + 0))) : Int) ≤ 0 by omega) (pAll1 (show ((-528) + (10 * ρ 5 + ((-1) * ρ 7 + (1 * ρ 8 + 0))) : Int) ≤ 0 by omega) (pAll0))))))))))))))
          · exact pAll0
    · rw [if_neg h1] at ee ev
      have ev := ev (by omega) (by omega)
      have hu : (wCh (wN h) (wB h) ((wSk (wN h) (wB h) (p)) + 1)) ≤ 47 ∨ 58 ≤ (wCh (wN h) (wB h) ((wSk (wN h) (wB h) (p)) + 1)) := by omega
      rcases hu with hu | hu
      · refine ⟨rNRc_2, List.mem_of_getElem? (i := 2) rfl, pEnd [ρ 0, ρ 1, ρ 2, ρ 3, ρ 4, ρ 5, ρ 6, ρ 7, ρ 8, ρ 9] rfl ?_ ?_ ?_ ?_⟩
        · exact hL
        · intro k b hk
          cases hk
        · exact pAll1 (show (0 + (1 * ρ 3 + ((-1) * ρ 4 + 0)) : Int) ≤ 0 by omega) (pAll1 (show (0 + ((-1) * ρ 2 + (1 * ρ 4 + 0)) : Int) ≤ 0 by omega) (pAll1 (show (1 + ((-1) * ρ 2 + (1 * ρ 4 + 0)) : Int) ≤ 0 by omega) (pAll1 (show (1 + ((-1) * ρ 5 + 0) : Int) ≤ 0 by omega) (pAll1 (show (1 + ((-1) * ρ 2 + (1 * ρ 4 + 0)) : Int) ≤ 0 by omega) (pAll1 (show (48 + ((-1) * ρ 5 + 0) : Int) ≤ 0 by omega) (pAll1 (show ((-57) + (1 * ρ 5 + 0) : Int) ≤ 0 by omega) (pAll1 (show ((-47) + (1 * ρ 8 + 0) : Int) ≤ 0 by omega) (pAll1 (show ((-1) + ((-1) * ρ 4 + (1 * ρ 6 + 0)) : Int) ≤ 0 by omega) (pAll1 (show (1 + (1 * ρ 4 + ((-1) * ρ 6 + 0)) : Int) ≤ 0 by omega) (pAll1 (show (48 + ((-1) * ρ 5 + (1 * ρ 7 + 0)) : Int) ≤ 0 by omega) (pAll1 (show ((-48) + (1 * ρ 5 + ((-1) * ρ 7 + 0)) : Int) ≤ 0 by omega) (pAll0))))))))))))
        · exact pAll0
      · refine ⟨rNRc_3, List.mem_of_getElem? (i := 3) rfl, pEnd [ρ 0, ρ 1, ρ 2, ρ 3, ρ 4, ρ 5, ρ 6, ρ 7, ρ 8, ρ 9] rfl ?_ ?_ ?_ ?_⟩
        · exact hL
        · intro k b hk
          cases hk
        · exact pAll1 (show (0 + (1 * ρ 3 + ((-1) * ρ 4 + 0)) : Int) ≤ 0 by omega) (pAll1 (show (0 + ((-1) * ρ 2 + (1 * ρ 4 + 0)) : Int) ≤ 0 by omega) (pAll1 (show (1 + ((-1) * ρ 2 + (1 * ρ 4 + 0)) : Int) ≤ 0 by omega) (pAll1 (show (1 + ((-1) * ρ 5 + 0) : Int) ≤ 0 by omega) (pAll1 (show (1 + ((-1) * ρ 2 + (1 * ρ 4 + 0)) : Int) ≤ 0 by omega) (pAll1 (show (48 + ((-1) * ρ 5 + 0) : Int) ≤ 0 by omega) (pAll1 (show ((-57) + (1 * ρ 5 + 0) : Int) ≤ 0 by omega) (pAll1 (show (58 + ((-1) * ρ 8 + 0) : Int) ≤ 0 by omega) (pAll1 (show ((-1) + ((-1) * ρ 4 + (1 * ρ 6 + 0)) : Int) ≤ 0 by omega) (pAll1 (show (1 + (1 * ρ 4 + ((-1) * ρ 6 + 0)) : Int) ≤ 0 by omega) (pAll1 (show (48 + ((-1) * ρ 5 + (1 * ρ 7 + 0)) : Int) ≤ 0 by omega) (pAll1 (show ((-48) + (1 * ρ 5 + ((-1) * ρ 7 + 0)) : Int) ≤ 0 by omega) (pAll0))))))))))))
        · exact pAll0
  · rw [if_neg h0] at ee
    unfold wFl at ee
    have hu : (wCh (wN h) (wB h) ((wSk (wN h) (wB h) (p)))) ≤ 47 ∨ 58 ≤ (wCh (wN h) (wB h) ((wSk (wN h) (wB h) (p)))) := by omega
    rcases hu with hu | hu
    · refine ⟨rNRc_0, List.mem_of_getElem? (i := 0) rfl, pEnd [ρ 0, ρ 1, ρ 2, ρ 3, ρ 4, ρ 5, ρ 6, ρ 7, ρ 8, ρ 9] rfl ?_ ?_ ?_ ?_⟩
      · exact hL
      · intro k b hk
        cases hk
      · exact pAll1 (show (0 + (1 * ρ 3 + ((-1) * ρ 4 + 0)) : Int) ≤ 0 by omega) (pAll1 (show (0 + ((-1) * ρ 2 + (1 * ρ 4 + 0)) : Int) ≤ 0 by omega) (pAll1 (show ((-47) + (1 * ρ 5 + 0) : Int) ≤ 0 by omega) (pAll1 (show (1 + (1 * ρ 4 + (1 * ρ 6 + 0)) : Int) ≤ 0 by omega) (pAll1 (show ((-1) + ((-1) * ρ 4 + ((-1) * ρ 6 + 0)) : Int) ≤ 0 by omega) (pAll0)))))
      · exact pAll0
    · refine ⟨rNRc_1, List.mem_of_getElem? (i := 1) rfl, pEnd [ρ 0, ρ 1, ρ 2, ρ 3, ρ 4, ρ 5, ρ 6, ρ 7, ρ 8, ρ 9] rfl ?_ ?_ ?_ ?_⟩
      · exact hL
      · intro k b hk
        cases hk
      · exact pAll1 (show (0 + (1 * ρ 3 + ((-1) * ρ 4 + 0)) : Int) ≤ 0 by omega) (pAll1 (show (0 + ((-1) * ρ 2 + (1 * ρ 4 + 0)) : Int) ≤ 0 by omega) (pAll1 (show (58 + ((-1) * ρ 5 + 0) : Int) ≤ 0 by omega) (pAll1 (show (1 + (1 * ρ 4 + (1 * ρ 6 + 0)) : Int) ≤ 0 by omega) (pAll1 (show ((-1) + ((-1) * ρ 4 + ((-1) * ρ 6 + 0)) : Int) ≤ 0 by omega) (pAll0)))))
      · exact pAll0
noncomputable def rIT0m_0 : sX := (none, [], [], [(0, [(3, 1), (16, (-1))]), (0, [(2, (-1)), (16, 1)]), ((-98), [(17, 1)]), (0, [(15, 1), (16, (-1))]), (0, [(15, (-1)), (16, 1)]), (0, [(9, (-1)), (12, 1)]), (0, [(9, 1), (12, (-1))]), (0, [(10, (-1)), (13, 1)]), (0, [(10, 1), (13, (-1))]), (0, [(11, (-1)), (14, 1)]), (0, [(11, 1), (14, (-1))])], [])
noncomputable def rIT0m_1 : sX := (none, [], [], [(0, [(3, 1), (16, (-1))]), (0, [(2, (-1)), (16, 1)]), (100, [(17, (-1))]), ((-103), [(17, 1)]), (0, [(15, 1), (16, (-1))]), (0, [(15, (-1)), (16, 1)]), (0, [(9, (-1)), (12, 1)]), (0, [(9, 1), (12, (-1))]), (0, [(10, (-1)), (13, 1)]), (0, [(10, 1), (13, (-1))]), (0, [(11, (-1)), (14, 1)]), (0, [(11, 1), (14, (-1))])], [])
noncomputable def rIT0m_2 : sX := (none, [], [], [(0, [(3, 1), (16, (-1))]), (0, [(2, (-1)), (16, 1)]), (105, [(17, (-1))]), ((-109), [(17, 1)]), (0, [(15, 1), (16, (-1))]), (0, [(15, (-1)), (16, 1)]), (0, [(9, (-1)), (12, 1)]), (0, [(9, 1), (12, (-1))]), (0, [(10, (-1)), (13, 1)]), (0, [(10, 1), (13, (-1))]), (0, [(11, (-1)), (14, 1)]), (0, [(11, 1), (14, (-1))])], [])
noncomputable def rIT0m_3 : sX := (none, [], [], [(0, [(3, 1), (16, (-1))]), (0, [(2, (-1)), (16, 1)]), (111, [(17, (-1))]), (0, [(15, 1), (16, (-1))]), (0, [(15, (-1)), (16, 1)]), (0, [(9, (-1)), (12, 1)]), (0, [(9, 1), (12, (-1))]), (0, [(10, (-1)), (13, 1)]), (0, [(10, 1), (13, (-1))]), (0, [(11, (-1)), (14, 1)]), (0, [(11, 1), (14, (-1))])], [])
noncomputable def rIT0m_4 : sX := (none, [], [], [(0, [(3, 1), (16, (-1))]), (0, [(2, (-1)), (16, 1)]), (1, [(2, (-1)), (16, 1)]), (1, [(17, (-1))]), ((-104), [(17, 1)]), (104, [(17, (-1))]), ((-1), [(5, 1)]), (1, [(5, (-1))]), (1, [(15, 1), (16, 1)]), ((-1), [(15, (-1)), (16, (-1))]), (1, [(3, 1), (15, 1)]), ((-1), [(3, (-1)), (15, (-1))])], [])
noncomputable def rIT0m_5 : sX := (none, [(500, (1, [(16, 1)]), (0, [(18, 1)])), (542, (0, [(18, 1)]), (0, [(19, 1)]))], [(0, 240), ((-241), (-1))], [(0, [(3, 1), (16, (-1))]), (0, [(2, (-1)), (16, 1)]), (1, [(2, (-1)), (16, 1)]), (1, [(17, (-1))]), ((-104), [(17, 1)]), (104, [(17, (-1))]), (0, [(5, 1)]), (0, [(5, (-1))]), (1, [(16, 1), (18, (-1))]), (0, [(2, (-1)), (18, 1)]), (0, [(15, 1), (19, (-1))]), (0, [(15, (-1)), (19, 1)]), (1, [(18, 1), (19, 1)]), ((-1), [(2, (-1)), (19, (-1))])], [])
noncomputable def rIT0m_6 : sX := (none, [(500, (1, [(16, 1)]), (0, [(18, 1)])), (542, (0, [(18, 1)]), (0, [(19, 1)])), (543, (0, [(18, 1)]), (0, [(20, 1)])), (530, (1, [(4, 1), (19, 16)]), (0, [(15, 1)])), (560, (100, [(4, 100), (19, 1600), (20, 1)]), (0, [(12, 1)])), (561, (100, [(4, 100), (10, 1), (19, 1600)]), (0, [(13, 1)])), (562, (100, [(4, 100), (11, 1), (19, 1600)]), (0, [(14, 1)]))], [(0, 240), (0, 240), (0, 99)], [(0, [(3, 1), (16, (-1))]), (0, [(2, (-1)), (16, 1)]), (1, [(2, (-1)), (16, 1)]), (1, [(17, (-1))]), ((-104), [(17, 1)]), (104, [(17, (-1))]), (0, [(5, 1)]), (0, [(5, (-1))]), (1, [(16, 1), (18, (-1))]), (0, [(2, (-1)), (18, 1)]), (1, [(18, 1), (19, (-1))]), (0, [(2, (-1)), (19, 1)]), (4, [(20, (-1))]), ((-10), [(20, 1)])], [])
noncomputable def rIT0m_7 : sX := (none, [(500, (1, [(16, 1)]), (0, [(18, 1)])), (542, (0, [(18, 1)]), (0, [(19, 1)])), (543, (0, [(18, 1)]), (0, [(20, 1)]))], [(0, 240), (0, 240), (0, 99)], [(0, [(3, 1), (16, (-1))]), (0, [(2, (-1)), (16, 1)]), (1, [(2, (-1)), (16, 1)]), (1, [(17, (-1))]), ((-104), [(17, 1)]), (104, [(17, (-1))]), (0, [(5, 1)]), (0, [(5, (-1))]), (1, [(16, 1), (18, (-1))]), (0, [(2, (-1)), (18, 1)]), (1, [(18, 1), (19, (-1))]), (0, [(2, (-1)), (19, 1)]), ((-3), [(20, 1)]), (0, [(15, 1), (19, 1)]), (0, [(15, (-1)), (19, (-1))])], [])
noncomputable def rIT0m_8 : sX := (none, [(500, (1, [(16, 1)]), (0, [(18, 1)])), (542, (0, [(18, 1)]), (0, [(19, 1)])), (543, (0, [(18, 1)]), (0, [(20, 1)]))], [(0, 240), (0, 240), (0, 99)], [(0, [(3, 1), (16, (-1))]), (0, [(2, (-1)), (16, 1)]), (1, [(2, (-1)), (16, 1)]), (1, [(17, (-1))]), ((-104), [(17, 1)]), (104, [(17, (-1))]), (0, [(5, 1)]), (0, [(5, (-1))]), (1, [(16, 1), (18, (-1))]), (0, [(2, (-1)), (18, 1)]), (1, [(18, 1), (19, (-1))]), (0, [(2, (-1)), (19, 1)]), (11, [(20, (-1))]), (0, [(15, 1), (19, 1)]), (0, [(15, (-1)), (19, (-1))])], [])
noncomputable def rIT0m_9 : sX := (none, [], [], [(0, [(3, 1), (16, (-1))]), (0, [(2, (-1)), (16, 1)]), (1, [(2, (-1)), (16, 1)]), (1, [(17, (-1))]), ((-110), [(17, 1)]), (110, [(17, (-1))]), ((-1), [(6, 1)]), (1, [(6, (-1))]), (1, [(15, 1), (16, 1)]), ((-1), [(15, (-1)), (16, (-1))]), (1, [(3, 1), (15, 1)]), ((-1), [(3, (-1)), (15, (-1))])], [])
noncomputable def rIT0m_10 : sX := (none, [(500, (1, [(16, 1)]), (0, [(18, 1)])), (542, (0, [(18, 1)]), (0, [(19, 1)]))], [(0, 240), ((-241), (-1))], [(0, [(3, 1), (16, (-1))]), (0, [(2, (-1)), (16, 1)]), (1, [(2, (-1)), (16, 1)]), (1, [(17, (-1))]), ((-110), [(17, 1)]), (110, [(17, (-1))]), (0, [(6, 1)]), (0, [(6, (-1))]), (1, [(16, 1), (18, (-1))]), (0, [(2, (-1)), (18, 1)]), (0, [(15, 1), (19, (-1))]), (0, [(15, (-1)), (19, 1)]), (1, [(18, 1), (19, 1)]), ((-1), [(2, (-1)), (19, (-1))])], [])
noncomputable def rIT0m_11 : sX := (none, [(500, (1, [(16, 1)]), (0, [(18, 1)])), (542, (0, [(18, 1)]), (0, [(19, 1)])), (543, (0, [(18, 1)]), (0, [(20, 1)])), (530, (2, [(4, 1), (19, 16)]), (0, [(15, 1)])), (560, (200, [(4, 100), (9, 1), (19, 1600)]), (0, [(12, 1)])), (561, (200, [(4, 100), (19, 1600), (20, 1)]), (0, [(13, 1)])), (562, (200, [(4, 100), (11, 1), (19, 1600)]), (0, [(14, 1)]))], [(0, 240), (0, 240), (0, 99)], [(0, [(3, 1), (16, (-1))]), (0, [(2, (-1)), (16, 1)]), (1, [(2, (-1)), (16, 1)]), (1, [(17, (-1))]), ((-110), [(17, 1)]), (110, [(17, (-1))]), (0, [(6, 1)]), (0, [(6, (-1))]), (1, [(16, 1), (18, (-1))]), (0, [(2, (-1)), (18, 1)]), (1, [(18, 1), (19, (-1))]), (0, [(2, (-1)), (19, 1)]), (1, [(20, (-1))]), ((-20), [(20, 1)])], [])
noncomputable def rIT0m_12 : sX := (none, [(500, (1, [(16, 1)]), (0, [(18, 1)])), (542, (0, [(18, 1)]), (0, [(19, 1)])), (543, (0, [(18, 1)]), (0, [(20, 1)]))], [(0, 240), (0, 240), (0, 99)], [(0, [(3, 1), (16, (-1))]), (0, [(2, (-1)), (16, 1)]), (1, [(2, (-1)), (16, 1)]), (1, [(17, (-1))]), ((-110), [(17, 1)]), (110, [(17, (-1))]), (0, [(6, 1)]), (0, [(6, (-1))]), (1, [(16, 1), (18, (-1))]), (0, [(2, (-1)), (18, 1)]), (1, [(18, 1), (19, (-1))]), (0, [(2, (-1)), (19, 1)]), (0, [(20, 1)]), (0, [(15, 1), (19, 1)]), (0, [(15, (-1)), (19, (-1))])], [])
noncomputable def rIT0m_13 : sX := (none, [(500, (1, [(16, 1)]), (0, [(18, 1)])), (542, (0, [(18, 1)]), (0, [(19, 1)])), (543, (0, [(18, 1)]), (0, [(20, 1)]))], [(0, 240), (0, 240), (0, 99)], [(0, [(3, 1), (16, (-1))]), (0, [(2, (-1)), (16, 1)]), (1, [(2, (-1)), (16, 1)]), (1, [(17, (-1))]), ((-110), [(17, 1)]), (110, [(17, (-1))]), (0, [(6, 1)]), (0, [(6, (-1))]), (1, [(16, 1), (18, (-1))]), (0, [(2, (-1)), (18, 1)]), (1, [(18, 1), (19, (-1))]), (0, [(2, (-1)), (19, 1)]), (21, [(20, (-1))]), (0, [(15, 1), (19, 1)]), (0, [(15, (-1)), (19, (-1))])], [])
noncomputable def rIT0m_14 : sX := (none, [], [], [(0, [(3, 1), (16, (-1))]), (0, [(2, (-1)), (16, 1)]), (1, [(2, (-1)), (16, 1)]), (1, [(17, (-1))]), ((-99), [(17, 1)]), (99, [(17, (-1))]), ((-1), [(7, 1)]), (1, [(7, (-1))]), (1, [(15, 1), (16, 1)]), ((-1), [(15, (-1)), (16, (-1))]), (1, [(3, 1), (15, 1)]), ((-1), [(3, (-1)), (15, (-1))])], [])
noncomputable def rIT0m_15 : sX := (none, [(500, (1, [(16, 1)]), (0, [(18, 1)])), (542, (0, [(18, 1)]), (0, [(19, 1)]))], [(0, 240), ((-241), (-1))], [(0, [(3, 1), (16, (-1))]), (0, [(2, (-1)), (16, 1)]), (1, [(2, (-1)), (16, 1)]), (1, [(17, (-1))]), ((-99), [(17, 1)]), (99, [(17, (-1))]), (0, [(7, 1)]), (0, [(7, (-1))]), (1, [(16, 1), (18, (-1))]), (0, [(2, (-1)), (18, 1)]), (0, [(15, 1), (19, (-1))]), (0, [(15, (-1)), (19, 1)]), (1, [(18, 1), (19, 1)]), ((-1), [(2, (-1)), (19, (-1))])], [])
noncomputable def rIT0m_16 : sX := (none, [(500, (1, [(16, 1)]), (0, [(18, 1)])), (542, (0, [(18, 1)]), (0, [(19, 1)])), (543, (0, [(18, 1)]), (0, [(20, 1)])), (530, (4, [(4, 1), (19, 16)]), (0, [(15, 1)])), (560, (400, [(4, 100), (9, 1), (19, 1600)]), (0, [(12, 1)])), (561, (400, [(4, 100), (10, 1), (19, 1600)]), (0, [(13, 1)])), (562, (400, [(4, 100), (19, 1600), (20, 1)]), (0, [(14, 1)]))], [(0, 240), (0, 240), (0, 99)], [(0, [(3, 1), (16, (-1))]), (0, [(2, (-1)), (16, 1)]), (1, [(2, (-1)), (16, 1)]), (1, [(17, (-1))]), ((-99), [(17, 1)]), (99, [(17, (-1))]), (0, [(7, 1)]), (0, [(7, (-1))]), (1, [(16, 1), (18, (-1))]), (0, [(2, (-1)), (18, 1)]), (1, [(18, 1), (19, (-1))]), (0, [(2, (-1)), (19, 1)]), (0, [(20, (-1))]), ((-99), [(20, 1)])], [])
noncomputable def rIT0m : sQ := (0, ([], [(2, 1013, (0, [])), (2, 1020, (0, [])), (2, 120, (2, [])), (2, 120, (3, [])), (0, 5, (0, [])), (2, 534, (0, [(4, 1)])), (2, 535, (0, [(4, 1)])), (2, 536, (0, [(4, 1)])), (2, 537, (0, [(4, 1)])), (2, 97, (0, [])), (2, 97, (1, [])), (2, 97, (2, [])), (2, 560, (0, [(3, 1600), (4, 100), (9, 1)])), (2, 561, (0, [(3, 1600), (4, 100), (10, 1)])), (2, 562, (0, [(3, 1600), (4, 100), (11, 1)])), (2, 530, (0, [(3, 16), (4, 1)])), (2, 500, (0, [(3, 1)])), (2, 501, (0, [(16, 1)]))], [(1, 1), (1, 1), (0, 240), (0, 240), (0, 15), (0, 1), (0, 1), (0, 1), (0, 1), (0, 99), (0, 99), (0, 99), (0, 99), (0, 99), (0, 99), ((-241), 240), (0, 240), (0, 255)], [(0, [(2, (-1)), (3, 1)]), (0, [(3, (-1)), (16, 1)]), (0, [(3, 1), (16, (-1))])], [(0, 0), (1, 1), (2, 2), (3, 3), (4, 4), (5, 5), (6, 6), (7, 7), (8, 8), (9, 9), (10, 10), (11, 11), (12, 12), (13, 13), (14, 14), (15, 15), (16, 16), (17, 17)], (0, [])), [rIT0m_0, rIT0m_1, rIT0m_2, rIT0m_3, rIT0m_4, rIT0m_5, rIT0m_6, rIT0m_7, rIT0m_8, rIT0m_9, rIT0m_10, rIT0m_11, rIT0m_12, rIT0m_13, rIT0m_14, rIT0m_15, rIT0m_16], [], 0)
set_option maxHeartbeats 8000000 in
theorem rIT0m_ok : pRul pReg pG pgv (rIT0m) := by
  intro loc h ρ ρ0 hG hM
  have hM : sMt pReg pgv ρ ρ0 (sAs (rIT0m).2.1) loc [] h := hM
  have q0 : ρ0 1 = ρ 0 := (hM.2.2.2.2.2 (1, sY 0) (List.mem_of_getElem? (i := 1) rfl)).trans (sY_v ρ 0)
  have q1 : ρ0 2 = ρ 1 := (hM.2.2.2.2.2 (2, sY 1) (List.mem_of_getElem? (i := 2) rfl)).trans (sY_v ρ 1)
  have q2 : ρ0 3 = ρ 2 := (hM.2.2.2.2.2 (3, sY 2) (List.mem_of_getElem? (i := 3) rfl)).trans (sY_v ρ 2)
  have q3 : ρ0 4 = ρ 3 := (hM.2.2.2.2.2 (4, sY 3) (List.mem_of_getElem? (i := 4) rfl)).trans (sY_v ρ 3)
  have q4 : ρ0 5 = ρ 4 := (hM.2.2.2.2.2 (5, sY 4) (List.mem_of_getElem? (i := 5) rfl)).trans (sY_v ρ 4)
  have q5 : ρ0 6 = ρ 5 := (hM.2.2.2.2.2 (6, sY 5) (List.mem_of_getElem? (i := 6) rfl)).trans (sY_v ρ 5)
  have q6 : ρ0 7 = ρ 6 := (hM.2.2.2.2.2 (7, sY 6) (List.mem_of_getElem? (i := 7) rfl)).trans (sY_v ρ 6)
  have q7 : ρ0 8 = ρ 7 := (hM.2.2.2.2.2 (8, sY 7) (List.mem_of_getElem? (i := 8) rfl)).trans (sY_v ρ 7)
  have q8 : ρ0 9 = ρ 8 := (hM.2.2.2.2.2 (9, sY 8) (List.mem_of_getElem? (i := 9) rfl)).trans (sY_v ρ 8)
  have q9 : ρ0 10 = ρ 9 := (hM.2.2.2.2.2 (10, sY 9) (List.mem_of_getElem? (i := 10) rfl)).trans (sY_v ρ 9)
  have q10 : ρ0 11 = ρ 10 := (hM.2.2.2.2.2 (11, sY 10) (List.mem_of_getElem? (i := 11) rfl)).trans (sY_v ρ 10)
  have q11 : ρ0 12 = ρ 11 := (hM.2.2.2.2.2 (12, sY 11) (List.mem_of_getElem? (i := 12) rfl)).trans (sY_v ρ 11)
  have q12 : ρ0 13 = ρ 12 := (hM.2.2.2.2.2 (13, sY 12) (List.mem_of_getElem? (i := 13) rfl)).trans (sY_v ρ 12)
  have q13 : ρ0 14 = ρ 13 := (hM.2.2.2.2.2 (14, sY 13) (List.mem_of_getElem? (i := 14) rfl)).trans (sY_v ρ 13)
  have q14 : ρ0 15 = ρ 14 := (hM.2.2.2.2.2 (15, sY 14) (List.mem_of_getElem? (i := 15) rfl)).trans (sY_v ρ 14)
  have q15 : ρ0 16 = ρ 15 := (hM.2.2.2.2.2 (16, sY 15) (List.mem_of_getElem? (i := 16) rfl)).trans (sY_v ρ 15)
  have q16 : ρ0 17 = ρ 16 := (hM.2.2.2.2.2 (17, sY 16) (List.mem_of_getElem? (i := 17) rfl)).trans (sY_v ρ 16)
  have q17 : ρ0 18 = ρ 17 := (hM.2.2.2.2.2 (18, sY 17) (List.mem_of_getElem? (i := 18) rfl)).trans (sY_v ρ 17)
  have hL : ∀ j, j < 18 → pL [ρ 0, ρ 1, ρ 2, ρ 3, ρ 4, ρ 5, ρ 6, ρ 7, ρ 8, ρ 9, ρ 10, ρ 11, ρ 12, ρ 13, ρ 14, ρ 15, ρ 16, ρ 17] j = ρ0 (j + 1) := by
    intro j hj
    match j, hj with
    | 0, _ => exact q0.symm
    | 1, _ => exact q1.symm
    | 2, _ => exact q2.symm
    | 3, _ => exact q3.symm
    | 4, _ => exact q4.symm
    | 5, _ => exact q5.symm
    | 6, _ => exact q6.symm
    | 7, _ => exact q7.symm
    | 8, _ => exact q8.symm
    | 9, _ => exact q9.symm
    | 10, _ => exact q10.symm
    | 11, _ => exact q11.symm
    | 12, _ => exact q12.symm
    | 13, _ => exact q13.symm
    | 14, _ => exact q14.symm
    | 15, _ => exact q15.symm
    | 16, _ => exact q16.symm
    | 17, _ => exact q17.symm
    | k + 18, hj => omega
  have b0 : (1 : Int) ≤ ρ 0 ∧ ρ 0 ≤ 1 := hM.2.2.2.1 0 (1, 1) rfl
  have b1 : (1 : Int) ≤ ρ 1 ∧ ρ 1 ≤ 1 := hM.2.2.2.1 1 (1, 1) rfl
  have b2 : (0 : Int) ≤ ρ 2 ∧ ρ 2 ≤ 240 := hM.2.2.2.1 2 (0, 240) rfl
  have b3 : (0 : Int) ≤ ρ 3 ∧ ρ 3 ≤ 240 := hM.2.2.2.1 3 (0, 240) rfl
  have b4 : (0 : Int) ≤ ρ 4 ∧ ρ 4 ≤ 15 := hM.2.2.2.1 4 (0, 15) rfl
  have b5 : (0 : Int) ≤ ρ 5 ∧ ρ 5 ≤ 1 := hM.2.2.2.1 5 (0, 1) rfl
  have b6 : (0 : Int) ≤ ρ 6 ∧ ρ 6 ≤ 1 := hM.2.2.2.1 6 (0, 1) rfl
  have b7 : (0 : Int) ≤ ρ 7 ∧ ρ 7 ≤ 1 := hM.2.2.2.1 7 (0, 1) rfl
  have b8 : (0 : Int) ≤ ρ 8 ∧ ρ 8 ≤ 1 := hM.2.2.2.1 8 (0, 1) rfl
  have b9 : (0 : Int) ≤ ρ 9 ∧ ρ 9 ≤ 99 := hM.2.2.2.1 9 (0, 99) rfl
  have b10 : (0 : Int) ≤ ρ 10 ∧ ρ 10 ≤ 99 := hM.2.2.2.1 10 (0, 99) rfl
  have b11 : (0 : Int) ≤ ρ 11 ∧ ρ 11 ≤ 99 := hM.2.2.2.1 11 (0, 99) rfl
  have b12 : (0 : Int) ≤ ρ 12 ∧ ρ 12 ≤ 99 := hM.2.2.2.1 12 (0, 99) rfl
  have b13 : (0 : Int) ≤ ρ 13 ∧ ρ 13 ≤ 99 := hM.2.2.2.1 13 (0, 99) rfl
  have b14 : (0 : Int) ≤ ρ 14 ∧ ρ 14 ≤ 99 := hM.2.2.2.1 14 (0, 99) rfl
  have b15 : ((-241) : Int) ≤ ρ 15 ∧ ρ 15 ≤ 240 := hM.2.2.2.1 15 ((-241), 240) rfl
  have b16 : (0 : Int) ≤ ρ 16 ∧ ρ 16 ≤ 240 := hM.2.2.2.1 16 (0, 240) rfl
  have b17 : (0 : Int) ≤ ρ 17 ∧ ρ 17 ≤ 255 := hM.2.2.2.1 17 (0, 255) rfl
  have c0 : (0 + ((-1) * ρ 2 + (1 * ρ 3 + 0)) : Int) ≤ 0 := hM.2.2.2.2.1 (0, [(2, (-1)), (3, 1)]) (List.mem_of_getElem? (i := 0) rfl)
  have c1 : (0 + ((-1) * ρ 3 + (1 * ρ 16 + 0)) : Int) ≤ 0 := hM.2.2.2.2.1 (0, [(3, (-1)), (16, 1)]) (List.mem_of_getElem? (i := 1) rfl)
  have c2 : (0 + (1 * ρ 3 + ((-1) * ρ 16 + 0)) : Int) ≤ 0 := hM.2.2.2.2.1 (0, [(3, 1), (16, (-1))]) (List.mem_of_getElem? (i := 2) rfl)
  obtain ⟨ho, hs, hh⟩ := pTold13 hM 0 (0, []) rfl b0.1
  have hn := ho.1
  obtain ⟨-, -, hf⟩ := pTold20 hM 1 (0, []) rfl b1.1
  have en : ρ 2 = (wN h : Int) := (pPl hM 2 120 (2, []) rfl (by omega) 440 2 (by decide +kernel) rfl).symm.trans hs.1
  obtain ⟨p, ep⟩ : ∃ p : Nat, ρ 3 = (p : Int) := ⟨(ρ 3).toNat, by omega⟩
  have hp : p ≤ wN h := by omega
  obtain ⟨s1, s2⟩ := wSk_le (B := wB h) hp
  obtain ⟨g, eg⟩ : ∃ g : Nat, ρ 4 = (g : Int) := ⟨(ρ 4).toNat, by omega⟩
  have hg : g < 16 := by omega
  have hb0 : (fBt g 0 : Int) = ρ 5 := ((pfF hM hf 5 534 (0, [(4, 1)]) rfl (by decide) (by decide) g (by omega) (by show (0 + (1 * ρ 4 + 0) : Int) = _; omega)).trans (fA_B (k := 0) (by decide))).symm
  have hb1 : (fBt g 1 : Int) = ρ 6 := ((pfF hM hf 6 535 (0, [(4, 1)]) rfl (by decide) (by decide) g (by omega) (by show (0 + (1 * ρ 4 + 0) : Int) = _; omega)).trans (fA_B (k := 1) (by decide))).symm
  have hb2 : (fBt g 2 : Int) = ρ 7 := ((pfF hM hf 7 536 (0, [(4, 1)]) rfl (by decide) (by decide) g (by omega) (by show (0 + (1 * ρ 4 + 0) : Int) = _; omega)).trans (fA_B (k := 2) (by decide))).symm
  have hb3 : (fBt g 3 : Int) = ρ 8 := ((pfF hM hf 8 537 (0, [(4, 1)]) rfl (by decide) (by decide) g (by omega) (by show (0 + (1 * ρ 4 + 0) : Int) = _; omega)).trans (fA_B (k := 3) (by decide))).symm
  obtain ⟨v0, ev0⟩ : ∃ v0 : Nat, ρ 9 = (v0 : Int) := ⟨(ρ 9).toNat, by omega⟩
  obtain ⟨v1, ev1⟩ : ∃ v1 : Nat, ρ 10 = (v1 : Int) := ⟨(ρ 10).toNat, by omega⟩
  obtain ⟨v2, ev2⟩ : ∃ v2 : Nat, ρ 11 = (v2 : Int) := ⟨(ρ 11).toNat, by omega⟩
  have er : ρ 15 = (fI (wN h) (wB h) 0 (g) (p)) := (pfF hM hf 15 530 (0, [(3, 16), (4, 1)]) rfl (by decide) (by decide) (16 * p + g) (by omega) (by show (0 + (16 * ρ 3 + (1 * ρ 4 + 0)) : Int) = _; omega)).trans (fA_IT0 hg hp hn)
  have ef0 : ρ 12 = (fV (wN h) (wB h) 0 0 (g) (p) (v0 : Int)) := (pfF hM hf 12 560 (0, [(3, 1600), (4, 100), (9, 1)]) rfl (by decide) (by decide) (1600 * p + 100 * g + v0) (by omega) (by show (0 + (1600 * ρ 3 + (100 * ρ 4 + (1 * ρ 9 + 0))) : Int) = _; omega)).trans (fA_I (s := 0) (j := 0) (r := 560) (Or.inl ⟨rfl, rfl, by decide⟩) hg hp (by omega))
  have ef1 : ρ 13 = (fV (wN h) (wB h) 0 1 (g) (p) (v1 : Int)) := (pfF hM hf 13 561 (0, [(3, 1600), (4, 100), (10, 1)]) rfl (by decide) (by decide) (1600 * p + 100 * g + v1) (by omega) (by show (0 + (1600 * ρ 3 + (100 * ρ 4 + (1 * ρ 10 + 0))) : Int) = _; omega)).trans (fA_I (s := 0) (j := 1) (r := 561) (Or.inl ⟨rfl, rfl, by decide⟩) hg hp (by omega))
  have ef2 : ρ 14 = (fV (wN h) (wB h) 0 2 (g) (p) (v2 : Int)) := (pfF hM hf 14 562 (0, [(3, 1600), (4, 100), (11, 1)]) rfl (by decide) (by decide) (1600 * p + 100 * g + v2) (by omega) (by show (0 + (1600 * ρ 3 + (100 * ρ 4 + (1 * ρ 11 + 0))) : Int) = _; omega)).trans (fA_I (s := 0) (j := 2) (r := 562) (Or.inl ⟨rfl, rfl, by decide⟩) hg hp (by omega))
  have eq : ρ 16 = ((wSk (wN h) (wB h) (p)) : Int) := pfS hM ho hh 16 (0, [(3, 1)]) rfl (p := p) (by omega) (by show (0 + (1 * ρ 3 + 0) : Int) = _; omega)
  have ec : ρ 17 = (wCh (wN h) (wB h) ((wSk (wN h) (wB h) (p)))) := pfC hM ho hh 17 (0, [(16, 1)]) rfl (p := (wSk (wN h) (wB h) (p))) (by omega) (by show (0 + (1 * ρ 16 + 0) : Int) = _; omega)
  have cbc := wCh_bd ho ((wSk (wN h) (wB h) (p)))
  have clc : (wCh (wN h) (wB h) ((wSk (wN h) (wB h) (p)))) ≠ 0 → (wSk (wN h) (wB h) (p)) < wN h := wCh_lt
  rcases fI_cs (n := wN h) (B := wB h) 0 g p hp hg with ⟨k9, i9, v9⟩ | ⟨k4, hq, hc⟩
  · rcases fIt_0 (c := (wCh (wN h) (wB h) ((wSk (wN h) (wB h) (p))))) (k := 9) k9 with ⟨z, -⟩ | ⟨z, -⟩ | ⟨z, -⟩ | ⟨-, z⟩
    · exact absurd z (by decide)
    · exact absurd z (by decide)
    · exact absurd z (by decide)
    · rw [i9] at er
      rw [v9] at ef0
      rw [v9] at ef1
      rw [v9] at ef2
      have hu : (wCh (wN h) (wB h) ((wSk (wN h) (wB h) (p)))) ≤ 98 ∨ (100 ≤ (wCh (wN h) (wB h) ((wSk (wN h) (wB h) (p)))) ∧ (wCh (wN h) (wB h) ((wSk (wN h) (wB h) (p)))) ≤ 103) ∨ (105 ≤ (wCh (wN h) (wB h) ((wSk (wN h) (wB h) (p)))) ∧ (wCh (wN h) (wB h) ((wSk (wN h) (wB h) (p)))) ≤ 109) ∨ 111 ≤ (wCh (wN h) (wB h) ((wSk (wN h) (wB h) (p)))) := by omega
      rcases hu with hu | hu | hu | hu
      · refine ⟨rIT0m_0, List.mem_of_getElem? (i := 0) rfl, pEnd [ρ 0, ρ 1, ρ 2, ρ 3, ρ 4, ρ 5, ρ 6, ρ 7, ρ 8, ρ 9, ρ 10, ρ 11, ρ 12, ρ 13, ρ 14, ρ 15, ρ 16, ρ 17] rfl ?_ ?_ ?_ ?_⟩
        · exact hL
        · intro k b hk
          cases hk
        · exact pAll1 (show (0 + (1 * ρ 3 + ((-1) * ρ 16 + 0)) : Int) ≤ 0 by omega) (pAll1 (show (0 + ((-1) * ρ 2 + (1 * ρ 16 + 0)) : Int) ≤ 0 by omega) (pAll1 (show ((-98) + (1 * ρ 17 + 0) : Int) ≤ 0 by omega) (pAll1 (show (0 + (1 * ρ 15 + ((-1) * ρ 16 + 0)) : Int) ≤ 0 by omega) (pAll1 (show (0 + ((-1) * ρ 15 + (1 * ρ 16 + 0)) : Int) ≤ 0 by omega) (pAll1 (show (0 + ((-1) * ρ 9 + (1 * ρ 12 + 0)) : Int) ≤ 0 by omega) (pAll1 (show (0 + (1 * ρ 9 + ((-1) * ρ 12 + 0)) : Int) ≤ 0 by omega) (pAll1 (show (0 + ((-1) * ρ 10 + (1 * ρ 13 + 0)) : Int) ≤ 0 by omega) (pAll1 (show (0 + (1 * ρ 10 + ((-1) * ρ 13 + 0)) : Int) ≤ 0 by omega) (pAll1 (show (0 + ((-1) * ρ 11 + (1 * ρ 14 + 0)) : Int) ≤ 0 by omega) (pAll1 (show (0 + (1 * ρ 11 + ((-1) * ρ 14 + 0)) : Int) ≤ 0 by omega) (pAll0)))))))))))
        · exact pAll0
      · refine ⟨rIT0m_1, List.mem_of_getElem? (i := 1) rfl, pEnd [ρ 0, ρ 1, ρ 2, ρ 3, ρ 4, ρ 5, ρ 6, ρ 7, ρ 8, ρ 9, ρ 10, ρ 11, ρ 12, ρ 13, ρ 14, ρ 15, ρ 16, ρ 17] rfl ?_ ?_ ?_ ?_⟩
        · exact hL
        · intro k b hk
          cases hk
        · exact pAll1 (show (0 + (1 * ρ 3 + ((-1) * ρ 16 + 0)) : Int) ≤ 0 by omega) (pAll1 (show (0 + ((-1) * ρ 2 + (1 * ρ 16 + 0)) : Int) ≤ 0 by omega) (pAll1 (show (100 + ((-1) * ρ 17 + 0) : Int) ≤ 0 by omega) (pAll1 (show ((-103) + (1 * ρ 17 + 0) : Int) ≤ 0 by omega) (pAll1 (show (0 + (1 * ρ 15 + ((-1) * ρ 16 + 0)) : Int) ≤ 0 by omega) (pAll1 (show (0 + ((-1) * ρ 15 + (1 * ρ 16 + 0)) : Int) ≤ 0 by omega) (pAll1 (show (0 + ((-1) * ρ 9 + (1 * ρ 12 + 0)) : Int) ≤ 0 by omega) (pAll1 (show (0 + (1 * ρ 9 + ((-1) * ρ 12 + 0)) : Int) ≤ 0 by omega) (pAll1 (show (0 + ((-1) * ρ 10 + (1 * ρ 13 + 0)) : Int) ≤ 0 by omega) (pAll1 (show (0 + (1 * ρ 10 + ((-1) * ρ 13 + 0)) : Int) ≤ 0 by omega) (pAll1 (show (0 + ((-1) * ρ 11 + (1 * ρ 14 + 0)) : Int) ≤ 0 by omega) (pAll1 (show (0 + (1 * ρ 11 + ((-1) * ρ 14 + 0)) : Int) ≤ 0 by omega) (pAll0))))))))))))
        · exact pAll0
      · refine ⟨rIT0m_2, List.mem_of_getElem? (i := 2) rfl, pEnd [ρ 0, ρ 1, ρ 2, ρ 3, ρ 4, ρ 5, ρ 6, ρ 7, ρ 8, ρ 9, ρ 10, ρ 11, ρ 12, ρ 13, ρ 14, ρ 15, ρ 16, ρ 17] rfl ?_ ?_ ?_ ?_⟩
        · exact hL
        · intro k b hk
          cases hk
        · exact pAll1 (show (0 + (1 * ρ 3 + ((-1) * ρ 16 + 0)) : Int) ≤ 0 by omega) (pAll1 (show (0 + ((-1) * ρ 2 + (1 * ρ 16 + 0)) : Int) ≤ 0 by omega) (pAll1 (show (105 + ((-1) * ρ 17 + 0) : Int) ≤ 0 by omega) (pAll1 (show ((-109) + (1 * ρ 17 + 0) : Int) ≤ 0 by omega) (pAll1 (show (0 + (1 * ρ 15 + ((-1) * ρ 16 + 0)) : Int) ≤ 0 by omega) (pAll1 (show (0 + ((-1) * ρ 15 + (1 * ρ 16 + 0)) : Int) ≤ 0 by omega) (pAll1 (show (0 + ((-1) * ρ 9 + (1 * ρ 12 + 0)) : Int) ≤ 0 by omega) (pAll1 (show (0 + (1 * ρ 9 + ((-1) * ρ 12 + 0)) : Int) ≤ 0 by omega) (pAll1 (show (0 + ((-1) * ρ 10 + (1 * ρ 13 + 0)) : Int) ≤ 0 by omega) (pAll1 (show (0 + (1 * ρ 10 + ((-1) * ρ 13 + 0)) : Int) ≤ 0 by omega) (pAll1 (show (0 + ((-1) * ρ 11 + (1 * ρ 14 + 0)) : Int) ≤ 0 by omega) (pAll1 (show (0 + (1 * ρ 11 + ((-1) * ρ 14 + 0)) : Int) ≤ 0 by omega) (pAll0))))))))))))
        · exact pAll0
      · refine ⟨rIT0m_3, List.mem_of_getElem? (i := 3) rfl, pEnd [ρ 0, ρ 1, ρ 2, ρ 3, ρ 4, ρ 5, ρ 6, ρ 7, ρ 8, ρ 9, ρ 10, ρ 11, ρ 12, ρ 13, ρ 14, ρ 15, ρ 16, ρ 17] rfl ?_ ?_ ?_ ?_⟩
        · exact hL
        · intro k b hk
          cases hk
        · exact pAll1 (show (0 + (1 * ρ 3 + ((-1) * ρ 16 + 0)) : Int) ≤ 0 by omega) (pAll1 (show (0 + ((-1) * ρ 2 + (1 * ρ 16 + 0)) : Int) ≤ 0 by omega) (pAll1 (show (111 + ((-1) * ρ 17 + 0) : Int) ≤ 0 by omega) (pAll1 (show (0 + (1 * ρ 15 + ((-1) * ρ 16 + 0)) : Int) ≤ 0 by omega) (pAll1 (show (0 + ((-1) * ρ 15 + (1 * ρ 16 + 0)) : Int) ≤ 0 by omega) (pAll1 (show (0 + ((-1) * ρ 9 + (1 * ρ 12 + 0)) : Int) ≤ 0 by omega) (pAll1 (show (0 + (1 * ρ 9 + ((-1) * ρ 12 + 0)) : Int) ≤ 0 by omega) (pAll1 (show (0 + ((-1) * ρ 10 + (1 * ρ 13 + 0)) : Int) ≤ 0 by omega) (pAll1 (show (0 + (1 * ρ 10 + ((-1) * ρ 13 + 0)) : Int) ≤ 0 by omega) (pAll1 (show (0 + ((-1) * ρ 11 + (1 * ρ 14 + 0)) : Int) ≤ 0 by omega) (pAll1 (show (0 + (1 * ρ 11 + ((-1) * ρ 14 + 0)) : Int) ≤ 0 by omega) (pAll0)))))))))))
        · exact pAll0
  · obtain ⟨k, ek⟩ : ∃ k, fK (wN h) (wB h) 0 p = k := ⟨_, rfl⟩
    rw [ek] at k4 hc
    rcases fIt_0 (c := (wCh (wN h) (wB h) ((wSk (wN h) (wB h) (p))))) (k := k) ek with ⟨rfl, z⟩ | ⟨rfl, z⟩ | ⟨rfl, z⟩ | ⟨rfl, -⟩
    · rcases hc with ⟨c8, c9⟩ | ⟨c8, c9, d0, d⟩
      · rw [c9] at er
        unfold wFl at er
        rw [c8] at hb0
        refine ⟨rIT0m_4, List.mem_of_getElem? (i := 4) rfl, pEnd [ρ 0, ρ 1, ρ 2, ρ 3, ρ 4, ρ 5, ρ 6, ρ 7, ρ 8, ρ 9, ρ 10, ρ 11, ρ 12, ρ 13, ρ 14, ρ 15, ρ 16, ρ 17] rfl ?_ ?_ ?_ ?_⟩
        · exact hL
        · intro k b hk
          cases hk
        · exact pAll1 (show (0 + (1 * ρ 3 + ((-1) * ρ 16 + 0)) : Int) ≤ 0 by omega) (pAll1 (show (0 + ((-1) * ρ 2 + (1 * ρ 16 + 0)) : Int) ≤ 0 by omega) (pAll1 (show (1 + ((-1) * ρ 2 + (1 * ρ 16 + 0)) : Int) ≤ 0 by omega) (pAll1 (show (1 + ((-1) * ρ 17 + 0) : Int) ≤ 0 by omega) (pAll1 (show ((-104) + (1 * ρ 17 + 0) : Int) ≤ 0 by omega) (pAll1 (show (104 + ((-1) * ρ 17 + 0) : Int) ≤ 0 by omega) (pAll1 (show ((-1) + (1 * ρ 5 + 0) : Int) ≤ 0 by omega) (pAll1 (show (1 + ((-1) * ρ 5 + 0) : Int) ≤ 0 by omega) (pAll1 (show (1 + (1 * ρ 15 + (1 * ρ 16 + 0)) : Int) ≤ 0 by omega) (pAll1 (show ((-1) + ((-1) * ρ 15 + ((-1) * ρ 16 + 0)) : Int) ≤ 0 by omega) (pAll1 (show (1 + (1 * ρ 3 + (1 * ρ 15 + 0)) : Int) ≤ 0 by omega) (pAll1 (show ((-1) + ((-1) * ρ 3 + ((-1) * ρ 15 + 0)) : Int) ≤ 0 by omega) (pAll0))))))))))))
        · exact pAll0
      · rw [c8] at hb0
        have c9 : (wSk (wN h) (wB h) (p)) + 1 ≤ (wSk (wN h) (wB h) ((wSk (wN h) (wB h) (p)) + 1)) := c9
        have d0 : (wSk (wN h) (wB h) ((wSk (wN h) (wB h) (p)) + 1)) ≤ wN h := d0
        rcases d with ⟨d1, d2, d3, d4⟩ | ⟨e, d1, d2, d3, d4, d5, d6⟩
        · have d1 : (fNr (wN h) (wB h) (wSk (wN h) (wB h) ((wSk (wN h) (wB h) (p)) + 1))) < 0 := d1
          have d2 : (fI (wN h) (wB h) 0 (g) (p)) = (fNr (wN h) (wB h) (wSk (wN h) (wB h) ((wSk (wN h) (wB h) (p)) + 1))) := d2
          have d3 : ((wSk (wN h) (wB h) ((wSk (wN h) (wB h) (p)) + 1)) : Int) ≤ -(fNr (wN h) (wB h) (wSk (wN h) (wB h) ((wSk (wN h) (wB h) (p)) + 1))) - 1 := d3
          have d4 : -(fNr (wN h) (wB h) (wSk (wN h) (wB h) ((wSk (wN h) (wB h) (p)) + 1))) - 1 ≤ (wN h : Int) := d4
          rw [d2] at er
          refine ⟨rIT0m_5, List.mem_of_getElem? (i := 5) rfl, pEnd [ρ 0, ρ 1, ρ 2, ρ 3, ρ 4, ρ 5, ρ 6, ρ 7, ρ 8, ρ 9, ρ 10, ρ 11, ρ 12, ρ 13, ρ 14, ρ 15, ρ 16, ρ 17, ((wSk (wN h) (wB h) ((wSk (wN h) (wB h) (p)) + 1)) : Int), (fNr (wN h) (wB h) (wSk (wN h) (wB h) ((wSk (wN h) (wB h) (p)) + 1)))] rfl ?_ ?_ ?_ ?_⟩
          · intro j hj
            match j, hj with
            | 0, _ => exact q0.symm
            | 1, _ => exact q1.symm
            | 2, _ => exact q2.symm
            | 3, _ => exact q3.symm
            | 4, _ => exact q4.symm
            | 5, _ => exact q5.symm
            | 6, _ => exact q6.symm
            | 7, _ => exact q7.symm
            | 8, _ => exact q8.symm
            | 9, _ => exact q9.symm
            | 10, _ => exact q10.symm
            | 11, _ => exact q11.symm
            | 12, _ => exact q12.symm
            | 13, _ => exact q13.symm
            | 14, _ => exact q14.symm
            | 15, _ => exact q15.symm
            | 16, _ => exact q16.symm
            | 17, _ => exact q17.symm
            | k + 18, hj => exact absurd hj (by show ¬ (k + 18 < 18); omega)
          · intro k b hk
            match k, hk with
            | 0, hk => cases hk; exact (show (0 : Int) ≤ ((wSk (wN h) (wB h) ((wSk (wN h) (wB h) (p)) + 1)) : Int) ∧ ((wSk (wN h) (wB h) ((wSk (wN h) (wB h) (p)) + 1)) : Int) ≤ (240 : Int) by omega)
            | 1, hk => cases hk; exact (show ((-241) : Int) ≤ (fNr (wN h) (wB h) (wSk (wN h) (wB h) ((wSk (wN h) (wB h) (p)) + 1))) ∧ (fNr (wN h) (wB h) (wSk (wN h) (wB h) ((wSk (wN h) (wB h) (p)) + 1))) ≤ ((-1) : Int) by omega)
            | k + 2, hk => cases hk
          · exact pAll1 (show (0 + (1 * ρ 3 + ((-1) * ρ 16 + 0)) : Int) ≤ 0 by omega) (pAll1 (show (0 + ((-1) * ρ 2 + (1 * ρ 16 + 0)) : Int) ≤ 0 by omega) (pAll1 (show (1 + ((-1) * ρ 2 + (1 * ρ 16 + 0)) : Int) ≤ 0 by omega) (pAll1 (show (1 + ((-1) * ρ 17 + 0) : Int) ≤ 0 by omega) (pAll1 (show ((-104) + (1 * ρ 17 + 0) : Int) ≤ 0 by omega) (pAll1 (show (104 + ((-1) * ρ 17 + 0) : Int) ≤ 0 by omega) (pAll1 (show (0 + (1 * ρ 5 + 0) : Int) ≤ 0 by omega) (pAll1 (show (0 + ((-1) * ρ 5 + 0) : Int) ≤ 0 by omega) (pAll1 (show (1 + (1 * ρ 16 + ((-1) * ((wSk (wN h) (wB h) ((wSk (wN h) (wB h) (p)) + 1)) : Int) + 0)) : Int) ≤ 0 by omega) (pAll1 (show (0 + ((-1) * ρ 2 + (1 * ((wSk (wN h) (wB h) ((wSk (wN h) (wB h) (p)) + 1)) : Int) + 0)) : Int) ≤ 0 by omega) (pAll1 (show (0 + (1 * ρ 15 + ((-1) * (fNr (wN h) (wB h) (wSk (wN h) (wB h) ((wSk (wN h) (wB h) (p)) + 1))) + 0)) : Int) ≤ 0 by omega) (pAll1 (show (0 + ((-1) * ρ 15 + (1 * (fNr (wN h) (wB h) (wSk (wN h) (wB h) ((wSk (wN h) (wB h) (p)) + 1))) + 0)) : Int) ≤ 0 by omega) (pAll1 (show (1 + (1 * ((wSk (wN h) (wB h) ((wSk (wN h) (wB h) (p)) + 1)) : Int) + (1 * (fNr (wN h) (wB h) (wSk (wN h) (wB h) ((wSk (wN h) (wB h) (p)) + 1))) + 0)) : Int) ≤ 0 by omega) (pAll1 (show ((-1) + ((-1) * ρ 2 + ((-1) * (fNr (wN h) (wB h) (wSk (wN h) (wB h) ((wSk (wN h) (wB h) (p)) + 1))) + 0)) : Int) ≤ 0 by omega) (pAll0))))))))))))))
          · exact pAll1 (pgS ho hh ((wSk (wN h) (wB h) (p)) + 1) (by omega) (show (1 + (1 * ρ 16 + 0) : Int) = _ by omega) (show (0 + (1 * ((wSk (wN h) (wB h) ((wSk (wN h) (wB h) (p)) + 1)) : Int) + 0) : Int) = _ by omega)) (pAll1 (pgF hf 542 (by decide) (by decide) ((wSk (wN h) (wB h) ((wSk (wN h) (wB h) (p)) + 1))) (by omega) (show (0 + (1 * ((wSk (wN h) (wB h) ((wSk (wN h) (wB h) (p)) + 1)) : Int) + 0) : Int) = _ by omega) (show (0 + (1 * (fNr (wN h) (wB h) (wSk (wN h) (wB h) ((wSk (wN h) (wB h) (p)) + 1))) + 0) : Int) = _ by rw [fA_NR d0 hn]; omega)) (pAll0))
        · have d1 : (fNr (wN h) (wB h) (wSk (wN h) (wB h) ((wSk (wN h) (wB h) (p)) + 1))) = (e : Int) := d1
          have d2 : (wSk (wN h) (wB h) ((wSk (wN h) (wB h) (p)) + 1)) < e := d2
          have d4 : 0 ≤ (fNv (wN h) (wB h) (wSk (wN h) (wB h) ((wSk (wN h) (wB h) (p)) + 1))) := d4
          have d5 : (fNv (wN h) (wB h) (wSk (wN h) (wB h) ((wSk (wN h) (wB h) (p)) + 1))) ≤ 99 := d5
          obtain ⟨w, ew⟩ : ∃ w : Nat, (fNv (wN h) (wB h) (wSk (wN h) (wB h) ((wSk (wN h) (wB h) (p)) + 1))) = (w : Int) := ⟨(fNv (wN h) (wB h) (wSk (wN h) (wB h) ((wSk (wN h) (wB h) (p)) + 1))).toNat, by omega⟩
          have l1 : fLo 0 0 = 4 := rfl
          have l2 : fHi 0 0 = 10 := rfl
          rw [l1, l2] at d6
          rcases d6 with ⟨d7, d8⟩ | ⟨d7, d8, d9, d10, d11⟩
          · rw [d8] at er
            have d7 : (fNv (wN h) (wB h) (wSk (wN h) (wB h) ((wSk (wN h) (wB h) (p)) + 1))) < 4 ∨ 10 < (fNv (wN h) (wB h) (wSk (wN h) (wB h) ((wSk (wN h) (wB h) (p)) + 1))) := d7
            rcases d7 with d7 | d7
            · refine ⟨rIT0m_7, List.mem_of_getElem? (i := 7) rfl, pEnd [ρ 0, ρ 1, ρ 2, ρ 3, ρ 4, ρ 5, ρ 6, ρ 7, ρ 8, ρ 9, ρ 10, ρ 11, ρ 12, ρ 13, ρ 14, ρ 15, ρ 16, ρ 17, ((wSk (wN h) (wB h) ((wSk (wN h) (wB h) (p)) + 1)) : Int), (e : Int), (w : Int)] rfl ?_ ?_ ?_ ?_⟩
              · intro j hj
                match j, hj with
                | 0, _ => exact q0.symm
                | 1, _ => exact q1.symm
                | 2, _ => exact q2.symm
                | 3, _ => exact q3.symm
                | 4, _ => exact q4.symm
                | 5, _ => exact q5.symm
                | 6, _ => exact q6.symm
                | 7, _ => exact q7.symm
                | 8, _ => exact q8.symm
                | 9, _ => exact q9.symm
                | 10, _ => exact q10.symm
                | 11, _ => exact q11.symm
                | 12, _ => exact q12.symm
                | 13, _ => exact q13.symm
                | 14, _ => exact q14.symm
                | 15, _ => exact q15.symm
                | 16, _ => exact q16.symm
                | 17, _ => exact q17.symm
                | k + 18, hj => exact absurd hj (by show ¬ (k + 18 < 18); omega)
              · intro k b hk
                match k, hk with
                | 0, hk => cases hk; exact (show (0 : Int) ≤ ((wSk (wN h) (wB h) ((wSk (wN h) (wB h) (p)) + 1)) : Int) ∧ ((wSk (wN h) (wB h) ((wSk (wN h) (wB h) (p)) + 1)) : Int) ≤ (240 : Int) by omega)
                | 1, hk => cases hk; exact (show (0 : Int) ≤ (e : Int) ∧ (e : Int) ≤ (240 : Int) by omega)
                | 2, hk => cases hk; exact (show (0 : Int) ≤ (w : Int) ∧ (w : Int) ≤ (99 : Int) by omega)
                | k + 3, hk => cases hk
              · exact pAll1 (show (0 + (1 * ρ 3 + ((-1) * ρ 16 + 0)) : Int) ≤ 0 by omega) (pAll1 (show (0 + ((-1) * ρ 2 + (1 * ρ 16 + 0)) : Int) ≤ 0 by omega) (pAll1 (show (1 + ((-1) * ρ 2 + (1 * ρ 16 + 0)) : Int) ≤ 0 by omega) (pAll1 (show (1 + ((-1) * ρ 17 + 0) : Int) ≤ 0 by omega) (pAll1 (show ((-104) + (1 * ρ 17 + 0) : Int) ≤ 0 by omega) (pAll1 (show (104 + ((-1) * ρ 17 + 0) : Int) ≤ 0 by omega) (pAll1 (show (0 + (1 * ρ 5 + 0) : Int) ≤ 0 by omega) (pAll1 (show (0 + ((-1) * ρ 5 + 0) : Int) ≤ 0 by omega) (pAll1 (show (1 + (1 * ρ 16 + ((-1) * ((wSk (wN h) (wB h) ((wSk (wN h) (wB h) (p)) + 1)) : Int) + 0)) : Int) ≤ 0 by omega) (pAll1 (show (0 + ((-1) * ρ 2 + (1 * ((wSk (wN h) (wB h) ((wSk (wN h) (wB h) (p)) + 1)) : Int) + 0)) : Int) ≤ 0 by omega) (pAll1 (show (1 + (1 * ((wSk (wN h) (wB h) ((wSk (wN h) (wB h) (p)) + 1)) : Int) + ((-1) * (e : Int) + 0)) : Int) ≤ 0 by omega) (pAll1 (show (0 + ((-1) * ρ 2 + (1 * (e : Int) + 0)) : Int) ≤ 0 by omega) (pAll1 (show ((-3) + (1 * (w : Int) + 0) : Int) ≤ 0 by omega) (pAll1 (show (0 + (1 * ρ 15 + (1 * (e : Int) + 0)) : Int) ≤ 0 by omega) (pAll1 (show (0 + ((-1) * ρ 15 + ((-1) * (e : Int) + 0)) : Int) ≤ 0 by omega) (pAll0)))))))))))))))
              · exact pAll1 (pgS ho hh ((wSk (wN h) (wB h) (p)) + 1) (by omega) (show (1 + (1 * ρ 16 + 0) : Int) = _ by omega) (show (0 + (1 * ((wSk (wN h) (wB h) ((wSk (wN h) (wB h) (p)) + 1)) : Int) + 0) : Int) = _ by omega)) (pAll1 (pgF hf 542 (by decide) (by decide) ((wSk (wN h) (wB h) ((wSk (wN h) (wB h) (p)) + 1))) (by omega) (show (0 + (1 * ((wSk (wN h) (wB h) ((wSk (wN h) (wB h) (p)) + 1)) : Int) + 0) : Int) = _ by omega) (show (0 + (1 * (e : Int) + 0) : Int) = _ by rw [fA_NR d0 hn]; omega)) (pAll1 (pgF hf 543 (by decide) (by decide) ((wSk (wN h) (wB h) ((wSk (wN h) (wB h) (p)) + 1))) (by omega) (show (0 + (1 * ((wSk (wN h) (wB h) ((wSk (wN h) (wB h) (p)) + 1)) : Int) + 0) : Int) = _ by omega) (show (0 + (1 * (w : Int) + 0) : Int) = _ by rw [fA_NV d4 d5]; omega)) (pAll0)))
            · refine ⟨rIT0m_8, List.mem_of_getElem? (i := 8) rfl, pEnd [ρ 0, ρ 1, ρ 2, ρ 3, ρ 4, ρ 5, ρ 6, ρ 7, ρ 8, ρ 9, ρ 10, ρ 11, ρ 12, ρ 13, ρ 14, ρ 15, ρ 16, ρ 17, ((wSk (wN h) (wB h) ((wSk (wN h) (wB h) (p)) + 1)) : Int), (e : Int), (w : Int)] rfl ?_ ?_ ?_ ?_⟩
              · intro j hj
                match j, hj with
                | 0, _ => exact q0.symm
                | 1, _ => exact q1.symm
                | 2, _ => exact q2.symm
                | 3, _ => exact q3.symm
                | 4, _ => exact q4.symm
                | 5, _ => exact q5.symm
                | 6, _ => exact q6.symm
                | 7, _ => exact q7.symm
                | 8, _ => exact q8.symm
                | 9, _ => exact q9.symm
                | 10, _ => exact q10.symm
                | 11, _ => exact q11.symm
                | 12, _ => exact q12.symm
                | 13, _ => exact q13.symm
                | 14, _ => exact q14.symm
                | 15, _ => exact q15.symm
                | 16, _ => exact q16.symm
                | 17, _ => exact q17.symm
                | k + 18, hj => exact absurd hj (by show ¬ (k + 18 < 18); omega)
              · intro k b hk
                match k, hk with
                | 0, hk => cases hk; exact (show (0 : Int) ≤ ((wSk (wN h) (wB h) ((wSk (wN h) (wB h) (p)) + 1)) : Int) ∧ ((wSk (wN h) (wB h) ((wSk (wN h) (wB h) (p)) + 1)) : Int) ≤ (240 : Int) by omega)
                | 1, hk => cases hk; exact (show (0 : Int) ≤ (e : Int) ∧ (e : Int) ≤ (240 : Int) by omega)
                | 2, hk => cases hk; exact (show (0 : Int) ≤ (w : Int) ∧ (w : Int) ≤ (99 : Int) by omega)
                | k + 3, hk => cases hk
              · exact pAll1 (show (0 + (1 * ρ 3 + ((-1) * ρ 16 + 0)) : Int) ≤ 0 by omega) (pAll1 (show (0 + ((-1) * ρ 2 + (1 * ρ 16 + 0)) : Int) ≤ 0 by omega) (pAll1 (show (1 + ((-1) * ρ 2 + (1 * ρ 16 + 0)) : Int) ≤ 0 by omega) (pAll1 (show (1 + ((-1) * ρ 17 + 0) : Int) ≤ 0 by omega) (pAll1 (show ((-104) + (1 * ρ 17 + 0) : Int) ≤ 0 by omega) (pAll1 (show (104 + ((-1) * ρ 17 + 0) : Int) ≤ 0 by omega) (pAll1 (show (0 + (1 * ρ 5 + 0) : Int) ≤ 0 by omega) (pAll1 (show (0 + ((-1) * ρ 5 + 0) : Int) ≤ 0 by omega) (pAll1 (show (1 + (1 * ρ 16 + ((-1) * ((wSk (wN h) (wB h) ((wSk (wN h) (wB h) (p)) + 1)) : Int) + 0)) : Int) ≤ 0 by omega) (pAll1 (show (0 + ((-1) * ρ 2 + (1 * ((wSk (wN h) (wB h) ((wSk (wN h) (wB h) (p)) + 1)) : Int) + 0)) : Int) ≤ 0 by omega) (pAll1 (show (1 + (1 * ((wSk (wN h) (wB h) ((wSk (wN h) (wB h) (p)) + 1)) : Int) + ((-1) * (e : Int) + 0)) : Int) ≤ 0 by omega) (pAll1 (show (0 + ((-1) * ρ 2 + (1 * (e : Int) + 0)) : Int) ≤ 0 by omega) (pAll1 (show (11 + ((-1) * (w : Int) + 0) : Int) ≤ 0 by omega) (pAll1 (show (0 + (1 * ρ 15 + (1 * (e : Int) + 0)) : Int) ≤ 0 by omega) (pAll1 (show (0 + ((-1) * ρ 15 + ((-1) * (e : Int) + 0)) : Int) ≤ 0 by omega) (pAll0)))))))))))))))
              · exact pAll1 (pgS ho hh ((wSk (wN h) (wB h) (p)) + 1) (by omega) (show (1 + (1 * ρ 16 + 0) : Int) = _ by omega) (show (0 + (1 * ((wSk (wN h) (wB h) ((wSk (wN h) (wB h) (p)) + 1)) : Int) + 0) : Int) = _ by omega)) (pAll1 (pgF hf 542 (by decide) (by decide) ((wSk (wN h) (wB h) ((wSk (wN h) (wB h) (p)) + 1))) (by omega) (show (0 + (1 * ((wSk (wN h) (wB h) ((wSk (wN h) (wB h) (p)) + 1)) : Int) + 0) : Int) = _ by omega) (show (0 + (1 * (e : Int) + 0) : Int) = _ by rw [fA_NR d0 hn]; omega)) (pAll1 (pgF hf 543 (by decide) (by decide) ((wSk (wN h) (wB h) ((wSk (wN h) (wB h) (p)) + 1))) (by omega) (show (0 + (1 * ((wSk (wN h) (wB h) ((wSk (wN h) (wB h) (p)) + 1)) : Int) + 0) : Int) = _ by omega) (show (0 + (1 * (w : Int) + 0) : Int) = _ by rw [fA_NV d4 d5]; omega)) (pAll0)))
          · have d7 : 4 ≤ (fNv (wN h) (wB h) (wSk (wN h) (wB h) ((wSk (wN h) (wB h) (p)) + 1))) := d7
            have d8 : (fNv (wN h) (wB h) (wSk (wN h) (wB h) ((wSk (wN h) (wB h) (p)) + 1))) ≤ 10 := d8
            have d9 : g + 1 < 16 := d9
            have d10 : (fI (wN h) (wB h) 0 (g) (p)) = (fI (wN h) (wB h) 0 (g + 1) (e)) := d10
            rw [d10] at er
            have x0 : (fV (wN h) (wB h) 0 0 (g) (p) (v0 : Int)) = (fV (wN h) (wB h) 0 0 (g + 1) (e) (w : Int)) := by
              have y := d11 0 (v0 : Int)
              rw [if_pos rfl] at y
              have y : (fV (wN h) (wB h) 0 0 (g) (p) (v0 : Int)) = (fV (wN h) (wB h) 0 0 (g + 1) (e) (fNv (wN h) (wB h) (wSk (wN h) (wB h) ((wSk (wN h) (wB h) (p)) + 1)))) := y
              rw [ew] at y
              exact y
            rw [x0] at ef0
            have x1 : (fV (wN h) (wB h) 0 1 (g) (p) (v1 : Int)) = (fV (wN h) (wB h) 0 1 (g + 1) (e) (v1 : Int)) := by
              have y := d11 1 (v1 : Int)
              rw [if_neg (by decide)] at y
              exact y
            rw [x1] at ef1
            have x2 : (fV (wN h) (wB h) 0 2 (g) (p) (v2 : Int)) = (fV (wN h) (wB h) 0 2 (g + 1) (e) (v2 : Int)) := by
              have y := d11 2 (v2 : Int)
              rw [if_neg (by decide)] at y
              exact y
            rw [x2] at ef2
            refine ⟨rIT0m_6, List.mem_of_getElem? (i := 6) rfl, pEnd [ρ 0, ρ 1, ρ 2, ρ 3, ρ 4, ρ 5, ρ 6, ρ 7, ρ 8, ρ 9, ρ 10, ρ 11, ρ 12, ρ 13, ρ 14, ρ 15, ρ 16, ρ 17, ((wSk (wN h) (wB h) ((wSk (wN h) (wB h) (p)) + 1)) : Int), (e : Int), (w : Int)] rfl ?_ ?_ ?_ ?_⟩
            · intro j hj
              match j, hj with
              | 0, _ => exact q0.symm
              | 1, _ => exact q1.symm
              | 2, _ => exact q2.symm
              | 3, _ => exact q3.symm
              | 4, _ => exact q4.symm
              | 5, _ => exact q5.symm
              | 6, _ => exact q6.symm
              | 7, _ => exact q7.symm
              | 8, _ => exact q8.symm
              | 9, _ => exact q9.symm
              | 10, _ => exact q10.symm
              | 11, _ => exact q11.symm
              | 12, _ => exact q12.symm
              | 13, _ => exact q13.symm
              | 14, _ => exact q14.symm
              | 15, _ => exact q15.symm
              | 16, _ => exact q16.symm
              | 17, _ => exact q17.symm
              | k + 18, hj => exact absurd hj (by show ¬ (k + 18 < 18); omega)
            · intro k b hk
              match k, hk with
              | 0, hk => cases hk; exact (show (0 : Int) ≤ ((wSk (wN h) (wB h) ((wSk (wN h) (wB h) (p)) + 1)) : Int) ∧ ((wSk (wN h) (wB h) ((wSk (wN h) (wB h) (p)) + 1)) : Int) ≤ (240 : Int) by omega)
              | 1, hk => cases hk; exact (show (0 : Int) ≤ (e : Int) ∧ (e : Int) ≤ (240 : Int) by omega)
              | 2, hk => cases hk; exact (show (0 : Int) ≤ (w : Int) ∧ (w : Int) ≤ (99 : Int) by omega)
              | k + 3, hk => cases hk
            · exact pAll1 (show (0 + (1 * ρ 3 + ((-1) * ρ 16 + 0)) : Int) ≤ 0 by omega) (pAll1 (show (0 + ((-1) * ρ 2 + (1 * ρ 16 + 0)) : Int) ≤ 0 by omega) (pAll1 (show (1 + ((-1) * ρ 2 + (1 * ρ 16 + 0)) : Int) ≤ 0 by omega) (pAll1 (show (1 + ((-1) * ρ 17 + 0) : Int) ≤ 0 by omega) (pAll1 (show ((-104) + (1 * ρ 17 + 0) : Int) ≤ 0 by omega) (pAll1 (show (104 + ((-1) * ρ 17 + 0) : Int) ≤ 0 by omega) (pAll1 (show (0 + (1 * ρ 5 + 0) : Int) ≤ 0 by omega) (pAll1 (show (0 + ((-1) * ρ 5 + 0) : Int) ≤ 0 by omega) (pAll1 (show (1 + (1 * ρ 16 + ((-1) * ((wSk (wN h) (wB h) ((wSk (wN h) (wB h) (p)) + 1)) : Int) + 0)) : Int) ≤ 0 by omega) (pAll1 (show (0 + ((-1) * ρ 2 + (1 * ((wSk (wN h) (wB h) ((wSk (wN h) (wB h) (p)) + 1)) : Int) + 0)) : Int) ≤ 0 by omega) (pAll1 (show (1 + (1 * ((wSk (wN h) (wB h) ((wSk (wN h) (wB h) (p)) + 1)) : Int) + ((-1) * (e : Int) + 0)) : Int) ≤ 0 by omega) (pAll1 (show (0 + ((-1) * ρ 2 + (1 * (e : Int) + 0)) : Int) ≤ 0 by omega) (pAll1 (show (4 + ((-1) * (w : Int) + 0) : Int) ≤ 0 by omega) (pAll1 (show ((-10) + (1 * (w : Int) + 0) : Int) ≤ 0 by omega) (pAll0))))))))))))))
            · exact pAll1 (pgS ho hh ((wSk (wN h) (wB h) (p)) + 1) (by omega) (show (1 + (1 * ρ 16 + 0) : Int) = _ by omega) (show (0 + (1 * ((wSk (wN h) (wB h) ((wSk (wN h) (wB h) (p)) + 1)) : Int) + 0) : Int) = _ by omega)) (pAll1 (pgF hf 542 (by decide) (by decide) ((wSk (wN h) (wB h) ((wSk (wN h) (wB h) (p)) + 1))) (by omega) (show (0 + (1 * ((wSk (wN h) (wB h) ((wSk (wN h) (wB h) (p)) + 1)) : Int) + 0) : Int) = _ by omega) (show (0 + (1 * (e : Int) + 0) : Int) = _ by rw [fA_NR d0 hn]; omega)) (pAll1 (pgF hf 543 (by decide) (by decide) ((wSk (wN h) (wB h) ((wSk (wN h) (wB h) (p)) + 1))) (by omega) (show (0 + (1 * ((wSk (wN h) (wB h) ((wSk (wN h) (wB h) (p)) + 1)) : Int) + 0) : Int) = _ by omega) (show (0 + (1 * (w : Int) + 0) : Int) = _ by rw [fA_NV d4 d5]; omega)) (pAll1 (pgF hf 530 (by decide) (by decide) (16 * e + (g + 1)) (by omega) (show (1 + (1 * ρ 4 + (16 * (e : Int) + 0)) : Int) = _ by omega) (show (0 + (1 * ρ 15 + 0) : Int) = _ by rw [fA_IT0 (g := g + 1) d9 d3 hn]; omega)) (pAll1 (pgF hf 560 (by decide) (by decide) (1600 * e + 100 * (g + 1) + w) (by omega) (show (100 + (100 * ρ 4 + (1600 * (e : Int) + (1 * (w : Int) + 0))) : Int) = _ by omega) (show (0 + (1 * ρ 12 + 0) : Int) = _ by rw [fA_I (s := 0) (j := 0) (r := 560) (g := g + 1) (v := w) (Or.inl ⟨rfl, rfl, by decide⟩) d9 d3 (by omega)]; omega)) (pAll1 (pgF hf 561 (by decide) (by decide) (1600 * e + 100 * (g + 1) + v1) (by omega) (show (100 + (100 * ρ 4 + (1 * ρ 10 + (1600 * (e : Int) + 0))) : Int) = _ by omega) (show (0 + (1 * ρ 13 + 0) : Int) = _ by rw [fA_I (s := 0) (j := 1) (r := 561) (g := g + 1) (v := v1) (Or.inl ⟨rfl, rfl, by decide⟩) d9 d3 (by omega)]; omega)) (pAll1 (pgF hf 562 (by decide) (by decide) (1600 * e + 100 * (g + 1) + v2) (by omega) (show (100 + (100 * ρ 4 + (1 * ρ 11 + (1600 * (e : Int) + 0))) : Int) = _ by omega) (show (0 + (1 * ρ 14 + 0) : Int) = _ by rw [fA_I (s := 0) (j := 2) (r := 562) (g := g + 1) (v := v2) (Or.inl ⟨rfl, rfl, by decide⟩) d9 d3 (by omega)]; omega)) (pAll0)))))))
    · rcases hc with ⟨c8, c9⟩ | ⟨c8, c9, d0, d⟩
      · rw [c9] at er
        unfold wFl at er
        rw [c8] at hb1
        refine ⟨rIT0m_9, List.mem_of_getElem? (i := 9) rfl, pEnd [ρ 0, ρ 1, ρ 2, ρ 3, ρ 4, ρ 5, ρ 6, ρ 7, ρ 8, ρ 9, ρ 10, ρ 11, ρ 12, ρ 13, ρ 14, ρ 15, ρ 16, ρ 17] rfl ?_ ?_ ?_ ?_⟩
        · exact hL
        · intro k b hk
          cases hk
        · exact pAll1 (show (0 + (1 * ρ 3 + ((-1) * ρ 16 + 0)) : Int) ≤ 0 by omega) (pAll1 (show (0 + ((-1) * ρ 2 + (1 * ρ 16 + 0)) : Int) ≤ 0 by omega) (pAll1 (show (1 + ((-1) * ρ 2 + (1 * ρ 16 + 0)) : Int) ≤ 0 by omega) (pAll1 (show (1 + ((-1) * ρ 17 + 0) : Int) ≤ 0 by omega) (pAll1 (show ((-110) + (1 * ρ 17 + 0) : Int) ≤ 0 by omega) (pAll1 (show (110 + ((-1) * ρ 17 + 0) : Int) ≤ 0 by omega) (pAll1 (show ((-1) + (1 * ρ 6 + 0) : Int) ≤ 0 by omega) (pAll1 (show (1 + ((-1) * ρ 6 + 0) : Int) ≤ 0 by omega) (pAll1 (show (1 + (1 * ρ 15 + (1 * ρ 16 + 0)) : Int) ≤ 0 by omega) (pAll1 (show ((-1) + ((-1) * ρ 15 + ((-1) * ρ 16 + 0)) : Int) ≤ 0 by omega) (pAll1 (show (1 + (1 * ρ 3 + (1 * ρ 15 + 0)) : Int) ≤ 0 by omega) (pAll1 (show ((-1) + ((-1) * ρ 3 + ((-1) * ρ 15 + 0)) : Int) ≤ 0 by omega) (pAll0))))))))))))
        · exact pAll0
      · rw [c8] at hb1
        have c9 : (wSk (wN h) (wB h) (p)) + 1 ≤ (wSk (wN h) (wB h) ((wSk (wN h) (wB h) (p)) + 1)) := c9
        have d0 : (wSk (wN h) (wB h) ((wSk (wN h) (wB h) (p)) + 1)) ≤ wN h := d0
        rcases d with ⟨d1, d2, d3, d4⟩ | ⟨e, d1, d2, d3, d4, d5, d6⟩
        · have d1 : (fNr (wN h) (wB h) (wSk (wN h) (wB h) ((wSk (wN h) (wB h) (p)) + 1))) < 0 := d1
          have d2 : (fI (wN h) (wB h) 0 (g) (p)) = (fNr (wN h) (wB h) (wSk (wN h) (wB h) ((wSk (wN h) (wB h) (p)) + 1))) := d2
          have d3 : ((wSk (wN h) (wB h) ((wSk (wN h) (wB h) (p)) + 1)) : Int) ≤ -(fNr (wN h) (wB h) (wSk (wN h) (wB h) ((wSk (wN h) (wB h) (p)) + 1))) - 1 := d3
          have d4 : -(fNr (wN h) (wB h) (wSk (wN h) (wB h) ((wSk (wN h) (wB h) (p)) + 1))) - 1 ≤ (wN h : Int) := d4
          rw [d2] at er
          refine ⟨rIT0m_10, List.mem_of_getElem? (i := 10) rfl, pEnd [ρ 0, ρ 1, ρ 2, ρ 3, ρ 4, ρ 5, ρ 6, ρ 7, ρ 8, ρ 9, ρ 10, ρ 11, ρ 12, ρ 13, ρ 14, ρ 15, ρ 16, ρ 17, ((wSk (wN h) (wB h) ((wSk (wN h) (wB h) (p)) + 1)) : Int), (fNr (wN h) (wB h) (wSk (wN h) (wB h) ((wSk (wN h) (wB h) (p)) + 1)))] rfl ?_ ?_ ?_ ?_⟩
          · intro j hj
            match j, hj with
            | 0, _ => exact q0.symm
            | 1, _ => exact q1.symm
            | 2, _ => exact q2.symm
            | 3, _ => exact q3.symm
            | 4, _ => exact q4.symm
            | 5, _ => exact q5.symm
            | 6, _ => exact q6.symm
            | 7, _ => exact q7.symm
            | 8, _ => exact q8.symm
            | 9, _ => exact q9.symm
            | 10, _ => exact q10.symm
            | 11, _ => exact q11.symm
            | 12, _ => exact q12.symm
            | 13, _ => exact q13.symm
            | 14, _ => exact q14.symm
            | 15, _ => exact q15.symm
            | 16, _ => exact q16.symm
            | 17, _ => exact q17.symm
            | k + 18, hj => exact absurd hj (by show ¬ (k + 18 < 18); omega)
          · intro k b hk
            match k, hk with
            | 0, hk => cases hk; exact (show (0 : Int) ≤ ((wSk (wN h) (wB h) ((wSk (wN h) (wB h) (p)) + 1)) : Int) ∧ ((wSk (wN h) (wB h) ((wSk (wN h) (wB h) (p)) + 1)) : Int) ≤ (240 : Int) by omega)
            | 1, hk => cases hk; exact (show ((-241) : Int) ≤ (fNr (wN h) (wB h) (wSk (wN h) (wB h) ((wSk (wN h) (wB h) (p)) + 1))) ∧ (fNr (wN h) (wB h) (wSk (wN h) (wB h) ((wSk (wN h) (wB h) (p)) + 1))) ≤ ((-1) : Int) by omega)
            | k + 2, hk => cases hk
          · exact pAll1 (show (0 + (1 * ρ 3 + ((-1) * ρ 16 + 0)) : Int) ≤ 0 by omega) (pAll1 (show (0 + ((-1) * ρ 2 + (1 * ρ 16 + 0)) : Int) ≤ 0 by omega) (pAll1 (show (1 + ((-1) * ρ 2 + (1 * ρ 16 + 0)) : Int) ≤ 0 by omega) (pAll1 (show (1 + ((-1) * ρ 17 + 0) : Int) ≤ 0 by omega) (pAll1 (show ((-110) + (1 * ρ 17 + 0) : Int) ≤ 0 by omega) (pAll1 (show (110 + ((-1) * ρ 17 + 0) : Int) ≤ 0 by omega) (pAll1 (show (0 + (1 * ρ 6 + 0) : Int) ≤ 0 by omega) (pAll1 (show (0 + ((-1) * ρ 6 + 0) : Int) ≤ 0 by omega) (pAll1 (show (1 + (1 * ρ 16 + ((-1) * ((wSk (wN h) (wB h) ((wSk (wN h) (wB h) (p)) + 1)) : Int) + 0)) : Int) ≤ 0 by omega) (pAll1 (show (0 + ((-1) * ρ 2 + (1 * ((wSk (wN h) (wB h) ((wSk (wN h) (wB h) (p)) + 1)) : Int) + 0)) : Int) ≤ 0 by omega) (pAll1 (show (0 + (1 * ρ 15 + ((-1) * (fNr (wN h) (wB h) (wSk (wN h) (wB h) ((wSk (wN h) (wB h) (p)) + 1))) + 0)) : Int) ≤ 0 by omega) (pAll1 (show (0 + ((-1) * ρ 15 + (1 * (fNr (wN h) (wB h) (wSk (wN h) (wB h) ((wSk (wN h) (wB h) (p)) + 1))) + 0)) : Int) ≤ 0 by omega) (pAll1 (show (1 + (1 * ((wSk (wN h) (wB h) ((wSk (wN h) (wB h) (p)) + 1)) : Int) + (1 * (fNr (wN h) (wB h) (wSk (wN h) (wB h) ((wSk (wN h) (wB h) (p)) + 1))) + 0)) : Int) ≤ 0 by omega) (pAll1 (show ((-1) + ((-1) * ρ 2 + ((-1) * (fNr (wN h) (wB h) (wSk (wN h) (wB h) ((wSk (wN h) (wB h) (p)) + 1))) + 0)) : Int) ≤ 0 by omega) (pAll0))))))))))))))
          · exact pAll1 (pgS ho hh ((wSk (wN h) (wB h) (p)) + 1) (by omega) (show (1 + (1 * ρ 16 + 0) : Int) = _ by omega) (show (0 + (1 * ((wSk (wN h) (wB h) ((wSk (wN h) (wB h) (p)) + 1)) : Int) + 0) : Int) = _ by omega)) (pAll1 (pgF hf 542 (by decide) (by decide) ((wSk (wN h) (wB h) ((wSk (wN h) (wB h) (p)) + 1))) (by omega) (show (0 + (1 * ((wSk (wN h) (wB h) ((wSk (wN h) (wB h) (p)) + 1)) : Int) + 0) : Int) = _ by omega) (show (0 + (1 * (fNr (wN h) (wB h) (wSk (wN h) (wB h) ((wSk (wN h) (wB h) (p)) + 1))) + 0) : Int) = _ by rw [fA_NR d0 hn]; omega)) (pAll0))
        · have d1 : (fNr (wN h) (wB h) (wSk (wN h) (wB h) ((wSk (wN h) (wB h) (p)) + 1))) = (e : Int) := d1
          have d2 : (wSk (wN h) (wB h) ((wSk (wN h) (wB h) (p)) + 1)) < e := d2
          have d4 : 0 ≤ (fNv (wN h) (wB h) (wSk (wN h) (wB h) ((wSk (wN h) (wB h) (p)) + 1))) := d4
          have d5 : (fNv (wN h) (wB h) (wSk (wN h) (wB h) ((wSk (wN h) (wB h) (p)) + 1))) ≤ 99 := d5
          obtain ⟨w, ew⟩ : ∃ w : Nat, (fNv (wN h) (wB h) (wSk (wN h) (wB h) ((wSk (wN h) (wB h) (p)) + 1))) = (w : Int) := ⟨(fNv (wN h) (wB h) (wSk (wN h) (wB h) ((wSk (wN h) (wB h) (p)) + 1))).toNat, by omega⟩
          have l1 : fLo 0 1 = 1 := rfl
          have l2 : fHi 0 1 = 20 := rfl
          rw [l1, l2] at d6
          rcases d6 with ⟨d7, d8⟩ | ⟨d7, d8, d9, d10, d11⟩
          · rw [d8] at er
            have d7 : (fNv (wN h) (wB h) (wSk (wN h) (wB h) ((wSk (wN h) (wB h) (p)) + 1))) < 1 ∨ 20 < (fNv (wN h) (wB h) (wSk (wN h) (wB h) ((wSk (wN h) (wB h) (p)) + 1))) := d7
            rcases d7 with d7 | d7
            · refine ⟨rIT0m_12, List.mem_of_getElem? (i := 12) rfl, pEnd [ρ 0, ρ 1, ρ 2, ρ 3, ρ 4, ρ 5, ρ 6, ρ 7, ρ 8, ρ 9, ρ 10, ρ 11, ρ 12, ρ 13, ρ 14, ρ 15, ρ 16, ρ 17, ((wSk (wN h) (wB h) ((wSk (wN h) (wB h) (p)) + 1)) : Int), (e : Int), (w : Int)] rfl ?_ ?_ ?_ ?_⟩
              · intro j hj
                match j, hj with
                | 0, _ => exact q0.symm
                | 1, _ => exact q1.symm
                | 2, _ => exact q2.symm
                | 3, _ => exact q3.symm
                | 4, _ => exact q4.symm
                | 5, _ => exact q5.symm
                | 6, _ => exact q6.symm
                | 7, _ => exact q7.symm
                | 8, _ => exact q8.symm
                | 9, _ => exact q9.symm
                | 10, _ => exact q10.symm
                | 11, _ => exact q11.symm
                | 12, _ => exact q12.symm
                | 13, _ => exact q13.symm
                | 14, _ => exact q14.symm
                | 15, _ => exact q15.symm
                | 16, _ => exact q16.symm
                | 17, _ => exact q17.symm
                | k + 18, hj => exact absurd hj (by show ¬ (k + 18 < 18); omega)
              · intro k b hk
                match k, hk with
                | 0, hk => cases hk; exact (show (0 : Int) ≤ ((wSk (wN h) (wB h) ((wSk (wN h) (wB h) (p)) + 1)) : Int) ∧ ((wSk (wN h) (wB h) ((wSk (wN h) (wB h) (p)) + 1)) : Int) ≤ (240 : Int) by omega)
                | 1, hk => cases hk; exact (show (0 : Int) ≤ (e : Int) ∧ (e : Int) ≤ (240 : Int) by omega)
                | 2, hk => cases hk; exact (show (0 : Int) ≤ (w : Int) ∧ (w : Int) ≤ (99 : Int) by omega)
                | k + 3, hk => cases hk
              · exact pAll1 (show (0 + (1 * ρ 3 + ((-1) * ρ 16 + 0)) : Int) ≤ 0 by omega) (pAll1 (show (0 + ((-1) * ρ 2 + (1 * ρ 16 + 0)) : Int) ≤ 0 by omega) (pAll1 (show (1 + ((-1) * ρ 2 + (1 * ρ 16 + 0)) : Int) ≤ 0 by omega) (pAll1 (show (1 + ((-1) * ρ 17 + 0) : Int) ≤ 0 by omega) (pAll1 (show ((-110) + (1 * ρ 17 + 0) : Int) ≤ 0 by omega) (pAll1 (show (110 + ((-1) * ρ 17 + 0) : Int) ≤ 0 by omega) (pAll1 (show (0 + (1 * ρ 6 + 0) : Int) ≤ 0 by omega) (pAll1 (show (0 + ((-1) * ρ 6 + 0) : Int) ≤ 0 by omega) (pAll1 (show (1 + (1 * ρ 16 + ((-1) * ((wSk (wN h) (wB h) ((wSk (wN h) (wB h) (p)) + 1)) : Int) + 0)) : Int) ≤ 0 by omega) (pAll1 (show (0 + ((-1) * ρ 2 + (1 * ((wSk (wN h) (wB h) ((wSk (wN h) (wB h) (p)) + 1)) : Int) + 0)) : Int) ≤ 0 by omega) (pAll1 (show (1 + (1 * ((wSk (wN h) (wB h) ((wSk (wN h) (wB h) (p)) + 1)) : Int) + ((-1) * (e : Int) + 0)) : Int) ≤ 0 by omega) (pAll1 (show (0 + ((-1) * ρ 2 + (1 * (e : Int) + 0)) : Int) ≤ 0 by omega) (pAll1 (show (0 + (1 * (w : Int) + 0) : Int) ≤ 0 by omega) (pAll1 (show (0 + (1 * ρ 15 + (1 * (e : Int) + 0)) : Int) ≤ 0 by omega) (pAll1 (show (0 + ((-1) * ρ 15 + ((-1) * (e : Int) + 0)) : Int) ≤ 0 by omega) (pAll0)))))))))))))))
              · exact pAll1 (pgS ho hh ((wSk (wN h) (wB h) (p)) + 1) (by omega) (show (1 + (1 * ρ 16 + 0) : Int) = _ by omega) (show (0 + (1 * ((wSk (wN h) (wB h) ((wSk (wN h) (wB h) (p)) + 1)) : Int) + 0) : Int) = _ by omega)) (pAll1 (pgF hf 542 (by decide) (by decide) ((wSk (wN h) (wB h) ((wSk (wN h) (wB h) (p)) + 1))) (by omega) (show (0 + (1 * ((wSk (wN h) (wB h) ((wSk (wN h) (wB h) (p)) + 1)) : Int) + 0) : Int) = _ by omega) (show (0 + (1 * (e : Int) + 0) : Int) = _ by rw [fA_NR d0 hn]; omega)) (pAll1 (pgF hf 543 (by decide) (by decide) ((wSk (wN h) (wB h) ((wSk (wN h) (wB h) (p)) + 1))) (by omega) (show (0 + (1 * ((wSk (wN h) (wB h) ((wSk (wN h) (wB h) (p)) + 1)) : Int) + 0) : Int) = _ by omega) (show (0 + (1 * (w : Int) + 0) : Int) = _ by rw [fA_NV d4 d5]; omega)) (pAll0)))
            · refine ⟨rIT0m_13, List.mem_of_getElem? (i := 13) rfl, pEnd [ρ 0, ρ 1, ρ 2, ρ 3, ρ 4, ρ 5, ρ 6, ρ 7, ρ 8, ρ 9, ρ 10, ρ 11, ρ 12, ρ 13, ρ 14, ρ 15, ρ 16, ρ 17, ((wSk (wN h) (wB h) ((wSk (wN h) (wB h) (p)) + 1)) : Int), (e : Int), (w : Int)] rfl ?_ ?_ ?_ ?_⟩
              · intro j hj
                match j, hj with
                | 0, _ => exact q0.symm
                | 1, _ => exact q1.symm
                | 2, _ => exact q2.symm
                | 3, _ => exact q3.symm
                | 4, _ => exact q4.symm
                | 5, _ => exact q5.symm
                | 6, _ => exact q6.symm
                | 7, _ => exact q7.symm
                | 8, _ => exact q8.symm
                | 9, _ => exact q9.symm
                | 10, _ => exact q10.symm
                | 11, _ => exact q11.symm
                | 12, _ => exact q12.symm
                | 13, _ => exact q13.symm
                | 14, _ => exact q14.symm
                | 15, _ => exact q15.symm
                | 16, _ => exact q16.symm
                | 17, _ => exact q17.symm
                | k + 18, hj => exact absurd hj (by show ¬ (k + 18 < 18); omega)
              · intro k b hk
                match k, hk with
                | 0, hk => cases hk; exact (show (0 : Int) ≤ ((wSk (wN h) (wB h) ((wSk (wN h) (wB h) (p)) + 1)) : Int) ∧ ((wSk (wN h) (wB h) ((wSk (wN h) (wB h) (p)) + 1)) : Int) ≤ (240 : Int) by omega)
                | 1, hk => cases hk; exact (show (0 : Int) ≤ (e : Int) ∧ (e : Int) ≤ (240 : Int) by omega)
                | 2, hk => cases hk; exact (show (0 : Int) ≤ (w : Int) ∧ (w : Int) ≤ (99 : Int) by omega)
                | k + 3, hk => cases hk
              · exact pAll1 (show (0 + (1 * ρ 3 + ((-1) * ρ 16 + 0)) : Int) ≤ 0 by omega) (pAll1 (show (0 + ((-1) * ρ 2 + (1 * ρ 16 + 0)) : Int) ≤ 0 by omega) (pAll1 (show (1 + ((-1) * ρ 2 + (1 * ρ 16 + 0)) : Int) ≤ 0 by omega) (pAll1 (show (1 + ((-1) * ρ 17 + 0) : Int) ≤ 0 by omega) (pAll1 (show ((-110) + (1 * ρ 17 + 0) : Int) ≤ 0 by omega) (pAll1 (show (110 + ((-1) * ρ 17 + 0) : Int) ≤ 0 by omega) (pAll1 (show (0 + (1 * ρ 6 + 0) : Int) ≤ 0 by omega) (pAll1 (show (0 + ((-1) * ρ 6 + 0) : Int) ≤ 0 by omega) (pAll1 (show (1 + (1 * ρ 16 + ((-1) * ((wSk (wN h) (wB h) ((wSk (wN h) (wB h) (p)) + 1)) : Int) + 0)) : Int) ≤ 0 by omega) (pAll1 (show (0 + ((-1) * ρ 2 + (1 * ((wSk (wN h) (wB h) ((wSk (wN h) (wB h) (p)) + 1)) : Int) + 0)) : Int) ≤ 0 by omega) (pAll1 (show (1 + (1 * ((wSk (wN h) (wB h) ((wSk (wN h) (wB h) (p)) + 1)) : Int) + ((-1) * (e : Int) + 0)) : Int) ≤ 0 by omega) (pAll1 (show (0 + ((-1) * ρ 2 + (1 * (e : Int) + 0)) : Int) ≤ 0 by omega) (pAll1 (show (21 + ((-1) * (w : Int) + 0) : Int) ≤ 0 by omega) (pAll1 (show (0 + (1 * ρ 15 + (1 * (e : Int) + 0)) : Int) ≤ 0 by omega) (pAll1 (show (0 + ((-1) * ρ 15 + ((-1) * (e : Int) + 0)) : Int) ≤ 0 by omega) (pAll0)))))))))))))))
              · exact pAll1 (pgS ho hh ((wSk (wN h) (wB h) (p)) + 1) (by omega) (show (1 + (1 * ρ 16 + 0) : Int) = _ by omega) (show (0 + (1 * ((wSk (wN h) (wB h) ((wSk (wN h) (wB h) (p)) + 1)) : Int) + 0) : Int) = _ by omega)) (pAll1 (pgF hf 542 (by decide) (by decide) ((wSk (wN h) (wB h) ((wSk (wN h) (wB h) (p)) + 1))) (by omega) (show (0 + (1 * ((wSk (wN h) (wB h) ((wSk (wN h) (wB h) (p)) + 1)) : Int) + 0) : Int) = _ by omega) (show (0 + (1 * (e : Int) + 0) : Int) = _ by rw [fA_NR d0 hn]; omega)) (pAll1 (pgF hf 543 (by decide) (by decide) ((wSk (wN h) (wB h) ((wSk (wN h) (wB h) (p)) + 1))) (by omega) (show (0 + (1 * ((wSk (wN h) (wB h) ((wSk (wN h) (wB h) (p)) + 1)) : Int) + 0) : Int) = _ by omega) (show (0 + (1 * (w : Int) + 0) : Int) = _ by rw [fA_NV d4 d5]; omega)) (pAll0)))
          · have d7 : 1 ≤ (fNv (wN h) (wB h) (wSk (wN h) (wB h) ((wSk (wN h) (wB h) (p)) + 1))) := d7
            have d8 : (fNv (wN h) (wB h) (wSk (wN h) (wB h) ((wSk (wN h) (wB h) (p)) + 1))) ≤ 20 := d8
            have d9 : g + 2 < 16 := d9
            have d10 : (fI (wN h) (wB h) 0 (g) (p)) = (fI (wN h) (wB h) 0 (g + 2) (e)) := d10
            rw [d10] at er
            have x0 : (fV (wN h) (wB h) 0 0 (g) (p) (v0 : Int)) = (fV (wN h) (wB h) 0 0 (g + 2) (e) (v0 : Int)) := by
              have y := d11 0 (v0 : Int)
              rw [if_neg (by decide)] at y
              exact y
            rw [x0] at ef0
            have x1 : (fV (wN h) (wB h) 0 1 (g) (p) (v1 : Int)) = (fV (wN h) (wB h) 0 1 (g + 2) (e) (w : Int)) := by
              have y := d11 1 (v1 : Int)
              rw [if_pos rfl] at y
              have y : (fV (wN h) (wB h) 0 1 (g) (p) (v1 : Int)) = (fV (wN h) (wB h) 0 1 (g + 2) (e) (fNv (wN h) (wB h) (wSk (wN h) (wB h) ((wSk (wN h) (wB h) (p)) + 1)))) := y
              rw [ew] at y
              exact y
            rw [x1] at ef1
            have x2 : (fV (wN h) (wB h) 0 2 (g) (p) (v2 : Int)) = (fV (wN h) (wB h) 0 2 (g + 2) (e) (v2 : Int)) := by
              have y := d11 2 (v2 : Int)
              rw [if_neg (by decide)] at y
              exact y
            rw [x2] at ef2
            refine ⟨rIT0m_11, List.mem_of_getElem? (i := 11) rfl, pEnd [ρ 0, ρ 1, ρ 2, ρ 3, ρ 4, ρ 5, ρ 6, ρ 7, ρ 8, ρ 9, ρ 10, ρ 11, ρ 12, ρ 13, ρ 14, ρ 15, ρ 16, ρ 17, ((wSk (wN h) (wB h) ((wSk (wN h) (wB h) (p)) + 1)) : Int), (e : Int), (w : Int)] rfl ?_ ?_ ?_ ?_⟩
            · intro j hj
              match j, hj with
              | 0, _ => exact q0.symm
              | 1, _ => exact q1.symm
              | 2, _ => exact q2.symm
              | 3, _ => exact q3.symm
              | 4, _ => exact q4.symm
              | 5, _ => exact q5.symm
              | 6, _ => exact q6.symm
              | 7, _ => exact q7.symm
              | 8, _ => exact q8.symm
              | 9, _ => exact q9.symm
              | 10, _ => exact q10.symm
              | 11, _ => exact q11.symm
              | 12, _ => exact q12.symm
              | 13, _ => exact q13.symm
              | 14, _ => exact q14.symm
              | 15, _ => exact q15.symm
              | 16, _ => exact q16.symm
              | 17, _ => exact q17.symm
              | k + 18, hj => exact absurd hj (by show ¬ (k + 18 < 18); omega)
            · intro k b hk
              match k, hk with
              | 0, hk => cases hk; exact (show (0 : Int) ≤ ((wSk (wN h) (wB h) ((wSk (wN h) (wB h) (p)) + 1)) : Int) ∧ ((wSk (wN h) (wB h) ((wSk (wN h) (wB h) (p)) + 1)) : Int) ≤ (240 : Int) by omega)
              | 1, hk => cases hk; exact (show (0 : Int) ≤ (e : Int) ∧ (e : Int) ≤ (240 : Int) by omega)
              | 2, hk => cases hk; exact (show (0 : Int) ≤ (w : Int) ∧ (w : Int) ≤ (99 : Int) by omega)
              | k + 3, hk => cases hk
            · exact pAll1 (show (0 + (1 * ρ 3 + ((-1) * ρ 16 + 0)) : Int) ≤ 0 by omega) (pAll1 (show (0 + ((-1) * ρ 2 + (1 * ρ 16 + 0)) : Int) ≤ 0 by omega) (pAll1 (show (1 + ((-1) * ρ 2 + (1 * ρ 16 + 0)) : Int) ≤ 0 by omega) (pAll1 (show (1 + ((-1) * ρ 17 + 0) : Int) ≤ 0 by omega) (pAll1 (show ((-110) + (1 * ρ 17 + 0) : Int) ≤ 0 by omega) (pAll1 (show (110 + ((-1) * ρ 17 + 0) : Int) ≤ 0 by omega) (pAll1 (show (0 + (1 * ρ 6 + 0) : Int) ≤ 0 by omega) (pAll1 (show (0 + ((-1) * ρ 6 + 0) : Int) ≤ 0 by omega) (pAll1 (show (1 + (1 * ρ 16 + ((-1) * ((wSk (wN h) (wB h) ((wSk (wN h) (wB h) (p)) + 1)) : Int) + 0)) : Int) ≤ 0 by omega) (pAll1 (show (0 + ((-1) * ρ 2 + (1 * ((wSk (wN h) (wB h) ((wSk (wN h) (wB h) (p)) + 1)) : Int) + 0)) : Int) ≤ 0 by omega) (pAll1 (show (1 + (1 * ((wSk (wN h) (wB h) ((wSk (wN h) (wB h) (p)) + 1)) : Int) + ((-1) * (e : Int) + 0)) : Int) ≤ 0 by omega) (pAll1 (show (0 + ((-1) * ρ 2 + (1 * (e : Int) + 0)) : Int) ≤ 0 by omega) (pAll1 (show (1 + ((-1) * (w : Int) + 0) : Int) ≤ 0 by omega) (pAll1 (show ((-20) + (1 * (w : Int) + 0) : Int) ≤ 0 by omega) (pAll0))))))))))))))
            · exact pAll1 (pgS ho hh ((wSk (wN h) (wB h) (p)) + 1) (by omega) (show (1 + (1 * ρ 16 + 0) : Int) = _ by omega) (show (0 + (1 * ((wSk (wN h) (wB h) ((wSk (wN h) (wB h) (p)) + 1)) : Int) + 0) : Int) = _ by omega)) (pAll1 (pgF hf 542 (by decide) (by decide) ((wSk (wN h) (wB h) ((wSk (wN h) (wB h) (p)) + 1))) (by omega) (show (0 + (1 * ((wSk (wN h) (wB h) ((wSk (wN h) (wB h) (p)) + 1)) : Int) + 0) : Int) = _ by omega) (show (0 + (1 * (e : Int) + 0) : Int) = _ by rw [fA_NR d0 hn]; omega)) (pAll1 (pgF hf 543 (by decide) (by decide) ((wSk (wN h) (wB h) ((wSk (wN h) (wB h) (p)) + 1))) (by omega) (show (0 + (1 * ((wSk (wN h) (wB h) ((wSk (wN h) (wB h) (p)) + 1)) : Int) + 0) : Int) = _ by omega) (show (0 + (1 * (w : Int) + 0) : Int) = _ by rw [fA_NV d4 d5]; omega)) (pAll1 (pgF hf 530 (by decide) (by decide) (16 * e + (g + 2)) (by omega) (show (2 + (1 * ρ 4 + (16 * (e : Int) + 0)) : Int) = _ by omega) (show (0 + (1 * ρ 15 + 0) : Int) = _ by rw [fA_IT0 (g := g + 2) d9 d3 hn]; omega)) (pAll1 (pgF hf 560 (by decide) (by decide) (1600 * e + 100 * (g + 2) + v0) (by omega) (show (200 + (100 * ρ 4 + (1 * ρ 9 + (1600 * (e : Int) + 0))) : Int) = _ by omega) (show (0 + (1 * ρ 12 + 0) : Int) = _ by rw [fA_I (s := 0) (j := 0) (r := 560) (g := g + 2) (v := v0) (Or.inl ⟨rfl, rfl, by decide⟩) d9 d3 (by omega)]; omega)) (pAll1 (pgF hf 561 (by decide) (by decide) (1600 * e + 100 * (g + 2) + w) (by omega) (show (200 + (100 * ρ 4 + (1600 * (e : Int) + (1 * (w : Int) + 0))) : Int) = _ by omega) (show (0 + (1 * ρ 13 + 0) : Int) = _ by rw [fA_I (s := 0) (j := 1) (r := 561) (g := g + 2) (v := w) (Or.inl ⟨rfl, rfl, by decide⟩) d9 d3 (by omega)]; omega)) (pAll1 (pgF hf 562 (by decide) (by decide) (1600 * e + 100 * (g + 2) + v2) (by omega) (show (200 + (100 * ρ 4 + (1 * ρ 11 + (1600 * (e : Int) + 0))) : Int) = _ by omega) (show (0 + (1 * ρ 14 + 0) : Int) = _ by rw [fA_I (s := 0) (j := 2) (r := 562) (g := g + 2) (v := v2) (Or.inl ⟨rfl, rfl, by decide⟩) d9 d3 (by omega)]; omega)) (pAll0)))))))
    · rcases hc with ⟨c8, c9⟩ | ⟨c8, c9, d0, d⟩
      · rw [c9] at er
        unfold wFl at er
        rw [c8] at hb2
        refine ⟨rIT0m_14, List.mem_of_getElem? (i := 14) rfl, pEnd [ρ 0, ρ 1, ρ 2, ρ 3, ρ 4, ρ 5, ρ 6, ρ 7, ρ 8, ρ 9, ρ 10, ρ 11, ρ 12, ρ 13, ρ 14, ρ 15, ρ 16, ρ 17] rfl ?_ ?_ ?_ ?_⟩
        · exact hL
        · intro k b hk
          cases hk
        · exact pAll1 (show (0 + (1 * ρ 3 + ((-1) * ρ 16 + 0)) : Int) ≤ 0 by omega) (pAll1 (show (0 + ((-1) * ρ 2 + (1 * ρ 16 + 0)) : Int) ≤ 0 by omega) (pAll1 (show (1 + ((-1) * ρ 2 + (1 * ρ 16 + 0)) : Int) ≤ 0 by omega) (pAll1 (show (1 + ((-1) * ρ 17 + 0) : Int) ≤ 0 by omega) (pAll1 (show ((-99) + (1 * ρ 17 + 0) : Int) ≤ 0 by omega) (pAll1 (show (99 + ((-1) * ρ 17 + 0) : Int) ≤ 0 by omega) (pAll1 (show ((-1) + (1 * ρ 7 + 0) : Int) ≤ 0 by omega) (pAll1 (show (1 + ((-1) * ρ 7 + 0) : Int) ≤ 0 by omega) (pAll1 (show (1 + (1 * ρ 15 + (1 * ρ 16 + 0)) : Int) ≤ 0 by omega) (pAll1 (show ((-1) + ((-1) * ρ 15 + ((-1) * ρ 16 + 0)) : Int) ≤ 0 by omega) (pAll1 (show (1 + (1 * ρ 3 + (1 * ρ 15 + 0)) : Int) ≤ 0 by omega) (pAll1 (show ((-1) + ((-1) * ρ 3 + ((-1) * ρ 15 + 0)) : Int) ≤ 0 by omega) (pAll0))))))))))))
        · exact pAll0
      · rw [c8] at hb2
        have c9 : (wSk (wN h) (wB h) (p)) + 1 ≤ (wSk (wN h) (wB h) ((wSk (wN h) (wB h) (p)) + 1)) := c9
        have d0 : (wSk (wN h) (wB h) ((wSk (wN h) (wB h) (p)) + 1)) ≤ wN h := d0
        rcases d with ⟨d1, d2, d3, d4⟩ | ⟨e, d1, d2, d3, d4, d5, d6⟩
        · have d1 : (fNr (wN h) (wB h) (wSk (wN h) (wB h) ((wSk (wN h) (wB h) (p)) + 1))) < 0 := d1
          have d2 : (fI (wN h) (wB h) 0 (g) (p)) = (fNr (wN h) (wB h) (wSk (wN h) (wB h) ((wSk (wN h) (wB h) (p)) + 1))) := d2
          have d3 : ((wSk (wN h) (wB h) ((wSk (wN h) (wB h) (p)) + 1)) : Int) ≤ -(fNr (wN h) (wB h) (wSk (wN h) (wB h) ((wSk (wN h) (wB h) (p)) + 1))) - 1 := d3
          have d4 : -(fNr (wN h) (wB h) (wSk (wN h) (wB h) ((wSk (wN h) (wB h) (p)) + 1))) - 1 ≤ (wN h : Int) := d4
          rw [d2] at er
          refine ⟨rIT0m_15, List.mem_of_getElem? (i := 15) rfl, pEnd [ρ 0, ρ 1, ρ 2, ρ 3, ρ 4, ρ 5, ρ 6, ρ 7, ρ 8, ρ 9, ρ 10, ρ 11, ρ 12, ρ 13, ρ 14, ρ 15, ρ 16, ρ 17, ((wSk (wN h) (wB h) ((wSk (wN h) (wB h) (p)) + 1)) : Int), (fNr (wN h) (wB h) (wSk (wN h) (wB h) ((wSk (wN h) (wB h) (p)) + 1)))] rfl ?_ ?_ ?_ ?_⟩
          · intro j hj
            match j, hj with
            | 0, _ => exact q0.symm
            | 1, _ => exact q1.symm
            | 2, _ => exact q2.symm
            | 3, _ => exact q3.symm
            | 4, _ => exact q4.symm
            | 5, _ => exact q5.symm
            | 6, _ => exact q6.symm
            | 7, _ => exact q7.symm
            | 8, _ => exact q8.symm
            | 9, _ => exact q9.symm
            | 10, _ => exact q10.symm
            | 11, _ => exact q11.symm
            | 12, _ => exact q12.symm
            | 13, _ => exact q13.symm
            | 14, _ => exact q14.symm
            | 15, _ => exact q15.symm
            | 16, _ => exact q16.symm
            | 17, _ => exact q17.symm
            | k + 18, hj => exact absurd hj (by show ¬ (k + 18 < 18); omega)
          · intro k b hk
            match k, hk with
            | 0, hk => cases hk; exact (show (0 : Int) ≤ ((wSk (wN h) (wB h) ((wSk (wN h) (wB h) (p)) + 1)) : Int) ∧ ((wSk (wN h) (wB h) ((wSk (wN h) (wB h) (p)) + 1)) : Int) ≤ (240 : Int) by omega)
            | 1, hk => cases hk; exact (show ((-241) : Int) ≤ (fNr (wN h) (wB h) (wSk (wN h) (wB h) ((wSk (wN h) (wB h) (p)) + 1))) ∧ (fNr (wN h) (wB h) (wSk (wN h) (wB h) ((wSk (wN h) (wB h) (p)) + 1))) ≤ ((-1) : Int) by omega)
            | k + 2, hk => cases hk
          · exact pAll1 (show (0 + (1 * ρ 3 + ((-1) * ρ 16 + 0)) : Int) ≤ 0 by omega) (pAll1 (show (0 + ((-1) * ρ 2 + (1 * ρ 16 + 0)) : Int) ≤ 0 by omega) (pAll1 (show (1 + ((-1) * ρ 2 + (1 * ρ 16 + 0)) : Int) ≤ 0 by omega) (pAll1 (show (1 + ((-1) * ρ 17 + 0) : Int) ≤ 0 by omega) (pAll1 (show ((-99) + (1 * ρ 17 + 0) : Int) ≤ 0 by omega) (pAll1 (show (99 + ((-1) * ρ 17 + 0) : Int) ≤ 0 by omega) (pAll1 (show (0 + (1 * ρ 7 + 0) : Int) ≤ 0 by omega) (pAll1 (show (0 + ((-1) * ρ 7 + 0) : Int) ≤ 0 by omega) (pAll1 (show (1 + (1 * ρ 16 + ((-1) * ((wSk (wN h) (wB h) ((wSk (wN h) (wB h) (p)) + 1)) : Int) + 0)) : Int) ≤ 0 by omega) (pAll1 (show (0 + ((-1) * ρ 2 + (1 * ((wSk (wN h) (wB h) ((wSk (wN h) (wB h) (p)) + 1)) : Int) + 0)) : Int) ≤ 0 by omega) (pAll1 (show (0 + (1 * ρ 15 + ((-1) * (fNr (wN h) (wB h) (wSk (wN h) (wB h) ((wSk (wN h) (wB h) (p)) + 1))) + 0)) : Int) ≤ 0 by omega) (pAll1 (show (0 + ((-1) * ρ 15 + (1 * (fNr (wN h) (wB h) (wSk (wN h) (wB h) ((wSk (wN h) (wB h) (p)) + 1))) + 0)) : Int) ≤ 0 by omega) (pAll1 (show (1 + (1 * ((wSk (wN h) (wB h) ((wSk (wN h) (wB h) (p)) + 1)) : Int) + (1 * (fNr (wN h) (wB h) (wSk (wN h) (wB h) ((wSk (wN h) (wB h) (p)) + 1))) + 0)) : Int) ≤ 0 by omega) (pAll1 (show ((-1) + ((-1) * ρ 2 + ((-1) * (fNr (wN h) (wB h) (wSk (wN h) (wB h) ((wSk (wN h) (wB h) (p)) + 1))) + 0)) : Int) ≤ 0 by omega) (pAll0))))))))))))))
          · exact pAll1 (pgS ho hh ((wSk (wN h) (wB h) (p)) + 1) (by omega) (show (1 + (1 * ρ 16 + 0) : Int) = _ by omega) (show (0 + (1 * ((wSk (wN h) (wB h) ((wSk (wN h) (wB h) (p)) + 1)) : Int) + 0) : Int) = _ by omega)) (pAll1 (pgF hf 542 (by decide) (by decide) ((wSk (wN h) (wB h) ((wSk (wN h) (wB h) (p)) + 1))) (by omega) (show (0 + (1 * ((wSk (wN h) (wB h) ((wSk (wN h) (wB h) (p)) + 1)) : Int) + 0) : Int) = _ by omega) (show (0 + (1 * (fNr (wN h) (wB h) (wSk (wN h) (wB h) ((wSk (wN h) (wB h) (p)) + 1))) + 0) : Int) = _ by rw [fA_NR d0 hn]; omega)) (pAll0))
        · have d1 : (fNr (wN h) (wB h) (wSk (wN h) (wB h) ((wSk (wN h) (wB h) (p)) + 1))) = (e : Int) := d1
          have d2 : (wSk (wN h) (wB h) ((wSk (wN h) (wB h) (p)) + 1)) < e := d2
          have d4 : 0 ≤ (fNv (wN h) (wB h) (wSk (wN h) (wB h) ((wSk (wN h) (wB h) (p)) + 1))) := d4
          have d5 : (fNv (wN h) (wB h) (wSk (wN h) (wB h) ((wSk (wN h) (wB h) (p)) + 1))) ≤ 99 := d5
          obtain ⟨w, ew⟩ : ∃ w : Nat, (fNv (wN h) (wB h) (wSk (wN h) (wB h) ((wSk (wN h) (wB h) (p)) + 1))) = (w : Int) := ⟨(fNv (wN h) (wB h) (wSk (wN h) (wB h) ((wSk (wN h) (wB h) (p)) + 1))).toNat, by omega⟩
          have l1 : fLo 0 2 = 0 := rfl
          have l2 : fHi 0 2 = 99 := rfl
          rw [l1, l2] at d6
          rcases d6 with ⟨d7, d8⟩ | ⟨d7, d8, d9, d10, d11⟩
          · rw [d8] at er
            have d7 : (fNv (wN h) (wB h) (wSk (wN h) (wB h) ((wSk (wN h) (wB h) (p)) + 1))) < 0 ∨ 99 < (fNv (wN h) (wB h) (wSk (wN h) (wB h) ((wSk (wN h) (wB h) (p)) + 1))) := d7
            rcases d7 with d7 | d7
            · omega
            · omega
          · have d7 : 0 ≤ (fNv (wN h) (wB h) (wSk (wN h) (wB h) ((wSk (wN h) (wB h) (p)) + 1))) := d7
            have d8 : (fNv (wN h) (wB h) (wSk (wN h) (wB h) ((wSk (wN h) (wB h) (p)) + 1))) ≤ 99 := d8
            have d9 : g + 4 < 16 := d9
            have d10 : (fI (wN h) (wB h) 0 (g) (p)) = (fI (wN h) (wB h) 0 (g + 4) (e)) := d10
            rw [d10] at er
            have x0 : (fV (wN h) (wB h) 0 0 (g) (p) (v0 : Int)) = (fV (wN h) (wB h) 0 0 (g + 4) (e) (v0 : Int)) := by
              have y := d11 0 (v0 : Int)
              rw [if_neg (by decide)] at y
              exact y
            rw [x0] at ef0
            have x1 : (fV (wN h) (wB h) 0 1 (g) (p) (v1 : Int)) = (fV (wN h) (wB h) 0 1 (g + 4) (e) (v1 : Int)) := by
              have y := d11 1 (v1 : Int)
              rw [if_neg (by decide)] at y
              exact y
            rw [x1] at ef1
            have x2 : (fV (wN h) (wB h) 0 2 (g) (p) (v2 : Int)) = (fV (wN h) (wB h) 0 2 (g + 4) (e) (w : Int)) := by
              have y := d11 2 (v2 : Int)
              rw [if_pos rfl] at y
              have y : (fV (wN h) (wB h) 0 2 (g) (p) (v2 : Int)) = (fV (wN h) (wB h) 0 2 (g + 4) (e) (fNv (wN h) (wB h) (wSk (wN h) (wB h) ((wSk (wN h) (wB h) (p)) + 1)))) := y
              rw [ew] at y
              exact y
            rw [x2] at ef2
            refine ⟨rIT0m_16, List.mem_of_getElem? (i := 16) rfl, pEnd [ρ 0, ρ 1, ρ 2, ρ 3, ρ 4, ρ 5, ρ 6, ρ 7, ρ 8, ρ 9, ρ 10, ρ 11, ρ 12, ρ 13, ρ 14, ρ 15, ρ 16, ρ 17, ((wSk (wN h) (wB h) ((wSk (wN h) (wB h) (p)) + 1)) : Int), (e : Int), (w : Int)] rfl ?_ ?_ ?_ ?_⟩
            · intro j hj
              match j, hj with
              | 0, _ => exact q0.symm
              | 1, _ => exact q1.symm
              | 2, _ => exact q2.symm
              | 3, _ => exact q3.symm
              | 4, _ => exact q4.symm
              | 5, _ => exact q5.symm
              | 6, _ => exact q6.symm
              | 7, _ => exact q7.symm
              | 8, _ => exact q8.symm
              | 9, _ => exact q9.symm
              | 10, _ => exact q10.symm
              | 11, _ => exact q11.symm
              | 12, _ => exact q12.symm
              | 13, _ => exact q13.symm
              | 14, _ => exact q14.symm
              | 15, _ => exact q15.symm
              | 16, _ => exact q16.symm
              | 17, _ => exact q17.symm
              | k + 18, hj => exact absurd hj (by show ¬ (k + 18 < 18); omega)
            · intro k b hk
              match k, hk with
              | 0, hk => cases hk; exact (show (0 : Int) ≤ ((wSk (wN h) (wB h) ((wSk (wN h) (wB h) (p)) + 1)) : Int) ∧ ((wSk (wN h) (wB h) ((wSk (wN h) (wB h) (p)) + 1)) : Int) ≤ (240 : Int) by omega)
              | 1, hk => cases hk; exact (show (0 : Int) ≤ (e : Int) ∧ (e : Int) ≤ (240 : Int) by omega)
              | 2, hk => cases hk; exact (show (0 : Int) ≤ (w : Int) ∧ (w : Int) ≤ (99 : Int) by omega)
              | k + 3, hk => cases hk
            · exact pAll1 (show (0 + (1 * ρ 3 + ((-1) * ρ 16 + 0)) : Int) ≤ 0 by omega) (pAll1 (show (0 + ((-1) * ρ 2 + (1 * ρ 16 + 0)) : Int) ≤ 0 by omega) (pAll1 (show (1 + ((-1) * ρ 2 + (1 * ρ 16 + 0)) : Int) ≤ 0 by omega) (pAll1 (show (1 + ((-1) * ρ 17 + 0) : Int) ≤ 0 by omega) (pAll1 (show ((-99) + (1 * ρ 17 + 0) : Int) ≤ 0 by omega) (pAll1 (show (99 + ((-1) * ρ 17 + 0) : Int) ≤ 0 by omega) (pAll1 (show (0 + (1 * ρ 7 + 0) : Int) ≤ 0 by omega) (pAll1 (show (0 + ((-1) * ρ 7 + 0) : Int) ≤ 0 by omega) (pAll1 (show (1 + (1 * ρ 16 + ((-1) * ((wSk (wN h) (wB h) ((wSk (wN h) (wB h) (p)) + 1)) : Int) + 0)) : Int) ≤ 0 by omega) (pAll1 (show (0 + ((-1) * ρ 2 + (1 * ((wSk (wN h) (wB h) ((wSk (wN h) (wB h) (p)) + 1)) : Int) + 0)) : Int) ≤ 0 by omega) (pAll1 (show (1 + (1 * ((wSk (wN h) (wB h) ((wSk (wN h) (wB h) (p)) + 1)) : Int) + ((-1) * (e : Int) + 0)) : Int) ≤ 0 by omega) (pAll1 (show (0 + ((-1) * ρ 2 + (1 * (e : Int) + 0)) : Int) ≤ 0 by omega) (pAll1 (show (0 + ((-1) * (w : Int) + 0) : Int) ≤ 0 by omega) (pAll1 (show ((-99) + (1 * (w : Int) + 0) : Int) ≤ 0 by omega) (pAll0))))))))))))))
            · exact pAll1 (pgS ho hh ((wSk (wN h) (wB h) (p)) + 1) (by omega) (show (1 + (1 * ρ 16 + 0) : Int) = _ by omega) (show (0 + (1 * ((wSk (wN h) (wB h) ((wSk (wN h) (wB h) (p)) + 1)) : Int) + 0) : Int) = _ by omega)) (pAll1 (pgF hf 542 (by decide) (by decide) ((wSk (wN h) (wB h) ((wSk (wN h) (wB h) (p)) + 1))) (by omega) (show (0 + (1 * ((wSk (wN h) (wB h) ((wSk (wN h) (wB h) (p)) + 1)) : Int) + 0) : Int) = _ by omega) (show (0 + (1 * (e : Int) + 0) : Int) = _ by rw [fA_NR d0 hn]; omega)) (pAll1 (pgF hf 543 (by decide) (by decide) ((wSk (wN h) (wB h) ((wSk (wN h) (wB h) (p)) + 1))) (by omega) (show (0 + (1 * ((wSk (wN h) (wB h) ((wSk (wN h) (wB h) (p)) + 1)) : Int) + 0) : Int) = _ by omega) (show (0 + (1 * (w : Int) + 0) : Int) = _ by rw [fA_NV d4 d5]; omega)) (pAll1 (pgF hf 530 (by decide) (by decide) (16 * e + (g + 4)) (by omega) (show (4 + (1 * ρ 4 + (16 * (e : Int) + 0)) : Int) = _ by omega) (show (0 + (1 * ρ 15 + 0) : Int) = _ by rw [fA_IT0 (g := g + 4) d9 d3 hn]; omega)) (pAll1 (pgF hf 560 (by decide) (by decide) (1600 * e + 100 * (g + 4) + v0) (by omega) (show (400 + (100 * ρ 4 + (1 * ρ 9 + (1600 * (e : Int) + 0))) : Int) = _ by omega) (show (0 + (1 * ρ 12 + 0) : Int) = _ by rw [fA_I (s := 0) (j := 0) (r := 560) (g := g + 4) (v := v0) (Or.inl ⟨rfl, rfl, by decide⟩) d9 d3 (by omega)]; omega)) (pAll1 (pgF hf 561 (by decide) (by decide) (1600 * e + 100 * (g + 4) + v1) (by omega) (show (400 + (100 * ρ 4 + (1 * ρ 10 + (1600 * (e : Int) + 0))) : Int) = _ by omega) (show (0 + (1 * ρ 13 + 0) : Int) = _ by rw [fA_I (s := 0) (j := 1) (r := 561) (g := g + 4) (v := v1) (Or.inl ⟨rfl, rfl, by decide⟩) d9 d3 (by omega)]; omega)) (pAll1 (pgF hf 562 (by decide) (by decide) (1600 * e + 100 * (g + 4) + w) (by omega) (show (400 + (100 * ρ 4 + (1600 * (e : Int) + (1 * (w : Int) + 0))) : Int) = _ by omega) (show (0 + (1 * ρ 14 + 0) : Int) = _ by rw [fA_I (s := 0) (j := 2) (r := 562) (g := g + 4) (v := w) (Or.inl ⟨rfl, rfl, by decide⟩) d9 d3 (by omega)]; omega)) (pAll0)))))))
    · omega
noncomputable def rIT1m_0 : sX := (none, [], [], [(0, [(3, 1), (18, (-1))]), (0, [(2, (-1)), (18, 1)]), ((-97), [(19, 1)]), (0, [(17, 1), (18, (-1))]), (0, [(17, (-1)), (18, 1)]), (0, [(9, (-1)), (13, 1)]), (0, [(9, 1), (13, (-1))]), (0, [(10, (-1)), (14, 1)]), (0, [(10, 1), (14, (-1))]), (0, [(11, (-1)), (15, 1)]), (0, [(11, 1), (15, (-1))]), (0, [(12, (-1)), (16, 1)]), (0, [(12, 1), (16, (-1))])], [])
noncomputable def rIT1m_1 : sX := (none, [], [], [(0, [(3, 1), (18, (-1))]), (0, [(2, (-1)), (18, 1)]), (99, [(19, (-1))]), ((-99), [(19, 1)]), (0, [(17, 1), (18, (-1))]), (0, [(17, (-1)), (18, 1)]), (0, [(9, (-1)), (13, 1)]), (0, [(9, 1), (13, (-1))]), (0, [(10, (-1)), (14, 1)]), (0, [(10, 1), (14, (-1))]), (0, [(11, (-1)), (15, 1)]), (0, [(11, 1), (15, (-1))]), (0, [(12, (-1)), (16, 1)]), (0, [(12, 1), (16, (-1))])], [])
noncomputable def rIT1m_2 : sX := (none, [], [], [(0, [(3, 1), (18, (-1))]), (0, [(2, (-1)), (18, 1)]), (102, [(19, (-1))]), ((-109), [(19, 1)]), (0, [(17, 1), (18, (-1))]), (0, [(17, (-1)), (18, 1)]), (0, [(9, (-1)), (13, 1)]), (0, [(9, 1), (13, (-1))]), (0, [(10, (-1)), (14, 1)]), (0, [(10, 1), (14, (-1))]), (0, [(11, (-1)), (15, 1)]), (0, [(11, 1), (15, (-1))]), (0, [(12, (-1)), (16, 1)]), (0, [(12, 1), (16, (-1))])], [])
noncomputable def rIT1m_3 : sX := (none, [], [], [(0, [(3, 1), (18, (-1))]), (0, [(2, (-1)), (18, 1)]), (111, [(19, (-1))]), (0, [(17, 1), (18, (-1))]), (0, [(17, (-1)), (18, 1)]), (0, [(9, (-1)), (13, 1)]), (0, [(9, 1), (13, (-1))]), (0, [(10, (-1)), (14, 1)]), (0, [(10, 1), (14, (-1))]), (0, [(11, (-1)), (15, 1)]), (0, [(11, 1), (15, (-1))]), (0, [(12, (-1)), (16, 1)]), (0, [(12, 1), (16, (-1))])], [])
noncomputable def rIT1m_4 : sX := (none, [], [], [(0, [(3, 1), (18, (-1))]), (0, [(2, (-1)), (18, 1)]), (1, [(2, (-1)), (18, 1)]), (1, [(19, (-1))]), ((-110), [(19, 1)]), (110, [(19, (-1))]), ((-1), [(5, 1)]), (1, [(5, (-1))]), (1, [(17, 1), (18, 1)]), ((-1), [(17, (-1)), (18, (-1))]), (1, [(3, 1), (17, 1)]), ((-1), [(3, (-1)), (17, (-1))])], [])
noncomputable def rIT1m_5 : sX := (none, [(500, (1, [(18, 1)]), (0, [(20, 1)])), (542, (0, [(20, 1)]), (0, [(21, 1)]))], [(0, 240), ((-241), (-1))], [(0, [(3, 1), (18, (-1))]), (0, [(2, (-1)), (18, 1)]), (1, [(2, (-1)), (18, 1)]), (1, [(19, (-1))]), ((-110), [(19, 1)]), (110, [(19, (-1))]), (0, [(5, 1)]), (0, [(5, (-1))]), (1, [(18, 1), (20, (-1))]), (0, [(2, (-1)), (20, 1)]), (0, [(17, 1), (21, (-1))]), (0, [(17, (-1)), (21, 1)]), (1, [(20, 1), (21, 1)]), ((-1), [(2, (-1)), (21, (-1))])], [])
noncomputable def rIT1m_6 : sX := (none, [(500, (1, [(18, 1)]), (0, [(20, 1)])), (542, (0, [(20, 1)]), (0, [(21, 1)])), (543, (0, [(20, 1)]), (0, [(22, 1)])), (531, (1, [(4, 1), (21, 16)]), (0, [(17, 1)])), (563, (100, [(4, 100), (21, 1600), (22, 1)]), (0, [(13, 1)])), (564, (100, [(4, 100), (10, 1), (21, 1600)]), (0, [(14, 1)])), (565, (100, [(4, 100), (11, 1), (21, 1600)]), (0, [(15, 1)])), (566, (100, [(4, 100), (12, 1), (21, 1600)]), (0, [(16, 1)]))], [(0, 240), (0, 240), (0, 99)], [(0, [(3, 1), (18, (-1))]), (0, [(2, (-1)), (18, 1)]), (1, [(2, (-1)), (18, 1)]), (1, [(19, (-1))]), ((-110), [(19, 1)]), (110, [(19, (-1))]), (0, [(5, 1)]), (0, [(5, (-1))]), (1, [(18, 1), (20, (-1))]), (0, [(2, (-1)), (20, 1)]), (1, [(20, 1), (21, (-1))]), (0, [(2, (-1)), (21, 1)]), (0, [(22, (-1))]), ((-10), [(22, 1)])], [])
noncomputable def rIT1m_7 : sX := (none, [(500, (1, [(18, 1)]), (0, [(20, 1)])), (542, (0, [(20, 1)]), (0, [(21, 1)])), (543, (0, [(20, 1)]), (0, [(22, 1)]))], [(0, 240), (0, 240), (0, 99)], [(0, [(3, 1), (18, (-1))]), (0, [(2, (-1)), (18, 1)]), (1, [(2, (-1)), (18, 1)]), (1, [(19, (-1))]), ((-110), [(19, 1)]), (110, [(19, (-1))]), (0, [(5, 1)]), (0, [(5, (-1))]), (1, [(18, 1), (20, (-1))]), (0, [(2, (-1)), (20, 1)]), (1, [(20, 1), (21, (-1))]), (0, [(2, (-1)), (21, 1)]), (11, [(22, (-1))]), (0, [(17, 1), (21, 1)]), (0, [(17, (-1)), (21, (-1))])], [])
noncomputable def rIT1m_8 : sX := (none, [], [], [(0, [(3, 1), (18, (-1))]), (0, [(2, (-1)), (18, 1)]), (1, [(2, (-1)), (18, 1)]), (1, [(19, (-1))]), ((-100), [(19, 1)]), (100, [(19, (-1))]), ((-1), [(6, 1)]), (1, [(6, (-1))]), (1, [(17, 1), (18, 1)]), ((-1), [(17, (-1)), (18, (-1))]), (1, [(3, 1), (17, 1)]), ((-1), [(3, (-1)), (17, (-1))])], [])
noncomputable def rIT1m_9 : sX := (none, [(500, (1, [(18, 1)]), (0, [(20, 1)])), (542, (0, [(20, 1)]), (0, [(21, 1)]))], [(0, 240), ((-241), (-1))], [(0, [(3, 1), (18, (-1))]), (0, [(2, (-1)), (18, 1)]), (1, [(2, (-1)), (18, 1)]), (1, [(19, (-1))]), ((-100), [(19, 1)]), (100, [(19, (-1))]), (0, [(6, 1)]), (0, [(6, (-1))]), (1, [(18, 1), (20, (-1))]), (0, [(2, (-1)), (20, 1)]), (0, [(17, 1), (21, (-1))]), (0, [(17, (-1)), (21, 1)]), (1, [(20, 1), (21, 1)]), ((-1), [(2, (-1)), (21, (-1))])], [])
noncomputable def rIT1m_10 : sX := (none, [(500, (1, [(18, 1)]), (0, [(20, 1)])), (542, (0, [(20, 1)]), (0, [(21, 1)])), (543, (0, [(20, 1)]), (0, [(22, 1)])), (531, (2, [(4, 1), (21, 16)]), (0, [(17, 1)])), (563, (200, [(4, 100), (9, 1), (21, 1600)]), (0, [(13, 1)])), (564, (200, [(4, 100), (21, 1600), (22, 1)]), (0, [(14, 1)])), (565, (200, [(4, 100), (11, 1), (21, 1600)]), (0, [(15, 1)])), (566, (200, [(4, 100), (12, 1), (21, 1600)]), (0, [(16, 1)]))], [(0, 240), (0, 240), (0, 99)], [(0, [(3, 1), (18, (-1))]), (0, [(2, (-1)), (18, 1)]), (1, [(2, (-1)), (18, 1)]), (1, [(19, (-1))]), ((-100), [(19, 1)]), (100, [(19, (-1))]), (0, [(6, 1)]), (0, [(6, (-1))]), (1, [(18, 1), (20, (-1))]), (0, [(2, (-1)), (20, 1)]), (1, [(20, 1), (21, (-1))]), (0, [(2, (-1)), (21, 1)]), (0, [(22, (-1))]), ((-9), [(22, 1)])], [])
noncomputable def rIT1m_11 : sX := (none, [(500, (1, [(18, 1)]), (0, [(20, 1)])), (542, (0, [(20, 1)]), (0, [(21, 1)])), (543, (0, [(20, 1)]), (0, [(22, 1)]))], [(0, 240), (0, 240), (0, 99)], [(0, [(3, 1), (18, (-1))]), (0, [(2, (-1)), (18, 1)]), (1, [(2, (-1)), (18, 1)]), (1, [(19, (-1))]), ((-100), [(19, 1)]), (100, [(19, (-1))]), (0, [(6, 1)]), (0, [(6, (-1))]), (1, [(18, 1), (20, (-1))]), (0, [(2, (-1)), (20, 1)]), (1, [(20, 1), (21, (-1))]), (0, [(2, (-1)), (21, 1)]), (10, [(22, (-1))]), (0, [(17, 1), (21, 1)]), (0, [(17, (-1)), (21, (-1))])], [])
noncomputable def rIT1m_12 : sX := (none, [], [], [(0, [(3, 1), (18, (-1))]), (0, [(2, (-1)), (18, 1)]), (1, [(2, (-1)), (18, 1)]), (1, [(19, (-1))]), ((-101), [(19, 1)]), (101, [(19, (-1))]), ((-1), [(7, 1)]), (1, [(7, (-1))]), (1, [(17, 1), (18, 1)]), ((-1), [(17, (-1)), (18, (-1))]), (1, [(3, 1), (17, 1)]), ((-1), [(3, (-1)), (17, (-1))])], [])
noncomputable def rIT1m_13 : sX := (none, [(500, (1, [(18, 1)]), (0, [(20, 1)])), (542, (0, [(20, 1)]), (0, [(21, 1)]))], [(0, 240), ((-241), (-1))], [(0, [(3, 1), (18, (-1))]), (0, [(2, (-1)), (18, 1)]), (1, [(2, (-1)), (18, 1)]), (1, [(19, (-1))]), ((-101), [(19, 1)]), (101, [(19, (-1))]), (0, [(7, 1)]), (0, [(7, (-1))]), (1, [(18, 1), (20, (-1))]), (0, [(2, (-1)), (20, 1)]), (0, [(17, 1), (21, (-1))]), (0, [(17, (-1)), (21, 1)]), (1, [(20, 1), (21, 1)]), ((-1), [(2, (-1)), (21, (-1))])], [])
noncomputable def rIT1m_14 : sX := (none, [(500, (1, [(18, 1)]), (0, [(20, 1)])), (542, (0, [(20, 1)]), (0, [(21, 1)])), (543, (0, [(20, 1)]), (0, [(22, 1)])), (531, (4, [(4, 1), (21, 16)]), (0, [(17, 1)])), (563, (400, [(4, 100), (9, 1), (21, 1600)]), (0, [(13, 1)])), (564, (400, [(4, 100), (10, 1), (21, 1600)]), (0, [(14, 1)])), (565, (400, [(4, 100), (21, 1600), (22, 1)]), (0, [(15, 1)])), (566, (400, [(4, 100), (12, 1), (21, 1600)]), (0, [(16, 1)]))], [(0, 240), (0, 240), (0, 99)], [(0, [(3, 1), (18, (-1))]), (0, [(2, (-1)), (18, 1)]), (1, [(2, (-1)), (18, 1)]), (1, [(19, (-1))]), ((-101), [(19, 1)]), (101, [(19, (-1))]), (0, [(7, 1)]), (0, [(7, (-1))]), (1, [(18, 1), (20, (-1))]), (0, [(2, (-1)), (20, 1)]), (1, [(20, 1), (21, (-1))]), (0, [(2, (-1)), (21, 1)]), (0, [(22, (-1))]), ((-9), [(22, 1)])], [])
noncomputable def rIT1m_15 : sX := (none, [(500, (1, [(18, 1)]), (0, [(20, 1)])), (542, (0, [(20, 1)]), (0, [(21, 1)])), (543, (0, [(20, 1)]), (0, [(22, 1)]))], [(0, 240), (0, 240), (0, 99)], [(0, [(3, 1), (18, (-1))]), (0, [(2, (-1)), (18, 1)]), (1, [(2, (-1)), (18, 1)]), (1, [(19, (-1))]), ((-101), [(19, 1)]), (101, [(19, (-1))]), (0, [(7, 1)]), (0, [(7, (-1))]), (1, [(18, 1), (20, (-1))]), (0, [(2, (-1)), (20, 1)]), (1, [(20, 1), (21, (-1))]), (0, [(2, (-1)), (21, 1)]), (10, [(22, (-1))]), (0, [(17, 1), (21, 1)]), (0, [(17, (-1)), (21, (-1))])], [])
noncomputable def rIT1m_16 : sX := (none, [], [], [(0, [(3, 1), (18, (-1))]), (0, [(2, (-1)), (18, 1)]), (1, [(2, (-1)), (18, 1)]), (1, [(19, (-1))]), ((-98), [(19, 1)]), (98, [(19, (-1))]), ((-1), [(8, 1)]), (1, [(8, (-1))]), (1, [(17, 1), (18, 1)]), ((-1), [(17, (-1)), (18, (-1))]), (1, [(3, 1), (17, 1)]), ((-1), [(3, (-1)), (17, (-1))])], [])
noncomputable def rIT1m_17 : sX := (none, [(500, (1, [(18, 1)]), (0, [(20, 1)])), (542, (0, [(20, 1)]), (0, [(21, 1)]))], [(0, 240), ((-241), (-1))], [(0, [(3, 1), (18, (-1))]), (0, [(2, (-1)), (18, 1)]), (1, [(2, (-1)), (18, 1)]), (1, [(19, (-1))]), ((-98), [(19, 1)]), (98, [(19, (-1))]), (0, [(8, 1)]), (0, [(8, (-1))]), (1, [(18, 1), (20, (-1))]), (0, [(2, (-1)), (20, 1)]), (0, [(17, 1), (21, (-1))]), (0, [(17, (-1)), (21, 1)]), (1, [(20, 1), (21, 1)]), ((-1), [(2, (-1)), (21, (-1))])], [])
noncomputable def rIT1m_18 : sX := (none, [(500, (1, [(18, 1)]), (0, [(20, 1)])), (542, (0, [(20, 1)]), (0, [(21, 1)])), (543, (0, [(20, 1)]), (0, [(22, 1)])), (531, (8, [(4, 1), (21, 16)]), (0, [(17, 1)])), (563, (800, [(4, 100), (9, 1), (21, 1600)]), (0, [(13, 1)])), (564, (800, [(4, 100), (10, 1), (21, 1600)]), (0, [(14, 1)])), (565, (800, [(4, 100), (11, 1), (21, 1600)]), (0, [(15, 1)])), (566, (800, [(4, 100), (21, 1600), (22, 1)]), (0, [(16, 1)]))], [(0, 240), (0, 240), (0, 99)], [(0, [(3, 1), (18, (-1))]), (0, [(2, (-1)), (18, 1)]), (1, [(2, (-1)), (18, 1)]), (1, [(19, (-1))]), ((-98), [(19, 1)]), (98, [(19, (-1))]), (0, [(8, 1)]), (0, [(8, (-1))]), (1, [(18, 1), (20, (-1))]), (0, [(2, (-1)), (20, 1)]), (1, [(20, 1), (21, (-1))]), (0, [(2, (-1)), (21, 1)]), (0, [(22, (-1))]), ((-9), [(22, 1)])], [])
noncomputable def rIT1m_19 : sX := (none, [(500, (1, [(18, 1)]), (0, [(20, 1)])), (542, (0, [(20, 1)]), (0, [(21, 1)])), (543, (0, [(20, 1)]), (0, [(22, 1)]))], [(0, 240), (0, 240), (0, 99)], [(0, [(3, 1), (18, (-1))]), (0, [(2, (-1)), (18, 1)]), (1, [(2, (-1)), (18, 1)]), (1, [(19, (-1))]), ((-98), [(19, 1)]), (98, [(19, (-1))]), (0, [(8, 1)]), (0, [(8, (-1))]), (1, [(18, 1), (20, (-1))]), (0, [(2, (-1)), (20, 1)]), (1, [(20, 1), (21, (-1))]), (0, [(2, (-1)), (21, 1)]), (10, [(22, (-1))]), (0, [(17, 1), (21, 1)]), (0, [(17, (-1)), (21, (-1))])], [])
noncomputable def rIT1m (b : Int) : sQ := (0, ([], [(2, 1013, (0, [])), (2, 1020, (0, [])), (2, 120, (2, [])), (2, 120, (3, [])), (0, 5, (0, [])), (2, 534, (0, [(4, 1)])), (2, 535, (0, [(4, 1)])), (2, 536, (0, [(4, 1)])), (2, 537, (0, [(4, 1)])), (2, 98, (b + 0, [])), (2, 98, (b + 1, [])), (2, 98, (b + 2, [])), (2, 98, (b + 3, [])), (2, 563, (0, [(3, 1600), (4, 100), (9, 1)])), (2, 564, (0, [(3, 1600), (4, 100), (10, 1)])), (2, 565, (0, [(3, 1600), (4, 100), (11, 1)])), (2, 566, (0, [(3, 1600), (4, 100), (12, 1)])), (2, 531, (0, [(3, 16), (4, 1)])), (2, 500, (0, [(3, 1)])), (2, 501, (0, [(18, 1)]))], [(1, 1), (1, 1), (0, 240), (0, 240), (0, 15), (0, 1), (0, 1), (0, 1), (0, 1), (0, 99), (0, 99), (0, 99), (0, 99), (0, 99), (0, 99), (0, 99), (0, 99), ((-241), 240), (0, 240), (0, 255)], [(0, [(2, (-1)), (3, 1)]), (0, [(3, (-1)), (18, 1)]), (0, [(3, 1), (18, (-1))])], [(0, 0), (1, 1), (2, 2), (3, 3), (4, 4), (5, 5), (6, 6), (7, 7), (8, 8), (9, 9), (10, 10), (11, 11), (12, 12), (13, 13), (14, 14), (15, 15), (16, 16), (17, 17), (18, 18), (19, 19)], (0, [])), [rIT1m_0, rIT1m_1, rIT1m_2, rIT1m_3, rIT1m_4, rIT1m_5, rIT1m_6, rIT1m_7, rIT1m_8, rIT1m_9, rIT1m_10, rIT1m_11, rIT1m_12, rIT1m_13, rIT1m_14, rIT1m_15, rIT1m_16, rIT1m_17, rIT1m_18, rIT1m_19], [], 0)
set_option maxHeartbeats 8000000 in
theorem rIT1m_ok (b : Int) : pRul pReg pG pgv (rIT1m b) := by
  intro loc h ρ ρ0 hG hM
  have hM : sMt pReg pgv ρ ρ0 (sAs (rIT1m b).2.1) loc [] h := hM
  have q0 : ρ0 1 = ρ 0 := (hM.2.2.2.2.2 (1, sY 0) (List.mem_of_getElem? (i := 1) rfl)).trans (sY_v ρ 0)
  have q1 : ρ0 2 = ρ 1 := (hM.2.2.2.2.2 (2, sY 1) (List.mem_of_getElem? (i := 2) rfl)).trans (sY_v ρ 1)
  have q2 : ρ0 3 = ρ 2 := (hM.2.2.2.2.2 (3, sY 2) (List.mem_of_getElem? (i := 3) rfl)).trans (sY_v ρ 2)
  have q3 : ρ0 4 = ρ 3 := (hM.2.2.2.2.2 (4, sY 3) (List.mem_of_getElem? (i := 4) rfl)).trans (sY_v ρ 3)
  have q4 : ρ0 5 = ρ 4 := (hM.2.2.2.2.2 (5, sY 4) (List.mem_of_getElem? (i := 5) rfl)).trans (sY_v ρ 4)
  have q5 : ρ0 6 = ρ 5 := (hM.2.2.2.2.2 (6, sY 5) (List.mem_of_getElem? (i := 6) rfl)).trans (sY_v ρ 5)
  have q6 : ρ0 7 = ρ 6 := (hM.2.2.2.2.2 (7, sY 6) (List.mem_of_getElem? (i := 7) rfl)).trans (sY_v ρ 6)
  have q7 : ρ0 8 = ρ 7 := (hM.2.2.2.2.2 (8, sY 7) (List.mem_of_getElem? (i := 8) rfl)).trans (sY_v ρ 7)
  have q8 : ρ0 9 = ρ 8 := (hM.2.2.2.2.2 (9, sY 8) (List.mem_of_getElem? (i := 9) rfl)).trans (sY_v ρ 8)
  have q9 : ρ0 10 = ρ 9 := (hM.2.2.2.2.2 (10, sY 9) (List.mem_of_getElem? (i := 10) rfl)).trans (sY_v ρ 9)
  have q10 : ρ0 11 = ρ 10 := (hM.2.2.2.2.2 (11, sY 10) (List.mem_of_getElem? (i := 11) rfl)).trans (sY_v ρ 10)
  have q11 : ρ0 12 = ρ 11 := (hM.2.2.2.2.2 (12, sY 11) (List.mem_of_getElem? (i := 12) rfl)).trans (sY_v ρ 11)
  have q12 : ρ0 13 = ρ 12 := (hM.2.2.2.2.2 (13, sY 12) (List.mem_of_getElem? (i := 13) rfl)).trans (sY_v ρ 12)
  have q13 : ρ0 14 = ρ 13 := (hM.2.2.2.2.2 (14, sY 13) (List.mem_of_getElem? (i := 14) rfl)).trans (sY_v ρ 13)
  have q14 : ρ0 15 = ρ 14 := (hM.2.2.2.2.2 (15, sY 14) (List.mem_of_getElem? (i := 15) rfl)).trans (sY_v ρ 14)
  have q15 : ρ0 16 = ρ 15 := (hM.2.2.2.2.2 (16, sY 15) (List.mem_of_getElem? (i := 16) rfl)).trans (sY_v ρ 15)
  have q16 : ρ0 17 = ρ 16 := (hM.2.2.2.2.2 (17, sY 16) (List.mem_of_getElem? (i := 17) rfl)).trans (sY_v ρ 16)
  have q17 : ρ0 18 = ρ 17 := (hM.2.2.2.2.2 (18, sY 17) (List.mem_of_getElem? (i := 18) rfl)).trans (sY_v ρ 17)
  have q18 : ρ0 19 = ρ 18 := (hM.2.2.2.2.2 (19, sY 18) (List.mem_of_getElem? (i := 19) rfl)).trans (sY_v ρ 18)
  have q19 : ρ0 20 = ρ 19 := (hM.2.2.2.2.2 (20, sY 19) (List.mem_of_getElem? (i := 20) rfl)).trans (sY_v ρ 19)
  have hL : ∀ j, j < 20 → pL [ρ 0, ρ 1, ρ 2, ρ 3, ρ 4, ρ 5, ρ 6, ρ 7, ρ 8, ρ 9, ρ 10, ρ 11, ρ 12, ρ 13, ρ 14, ρ 15, ρ 16, ρ 17, ρ 18, ρ 19] j = ρ0 (j + 1) := by
    intro j hj
    match j, hj with
    | 0, _ => exact q0.symm
    | 1, _ => exact q1.symm
    | 2, _ => exact q2.symm
    | 3, _ => exact q3.symm
    | 4, _ => exact q4.symm
    | 5, _ => exact q5.symm
    | 6, _ => exact q6.symm
    | 7, _ => exact q7.symm
    | 8, _ => exact q8.symm
    | 9, _ => exact q9.symm
    | 10, _ => exact q10.symm
    | 11, _ => exact q11.symm
    | 12, _ => exact q12.symm
    | 13, _ => exact q13.symm
    | 14, _ => exact q14.symm
    | 15, _ => exact q15.symm
    | 16, _ => exact q16.symm
    | 17, _ => exact q17.symm
    | 18, _ => exact q18.symm
    | 19, _ => exact q19.symm
    | k + 20, hj => omega
  have b0 : (1 : Int) ≤ ρ 0 ∧ ρ 0 ≤ 1 := hM.2.2.2.1 0 (1, 1) rfl
  have b1 : (1 : Int) ≤ ρ 1 ∧ ρ 1 ≤ 1 := hM.2.2.2.1 1 (1, 1) rfl
  have b2 : (0 : Int) ≤ ρ 2 ∧ ρ 2 ≤ 240 := hM.2.2.2.1 2 (0, 240) rfl
  have b3 : (0 : Int) ≤ ρ 3 ∧ ρ 3 ≤ 240 := hM.2.2.2.1 3 (0, 240) rfl
  have b4 : (0 : Int) ≤ ρ 4 ∧ ρ 4 ≤ 15 := hM.2.2.2.1 4 (0, 15) rfl
  have b5 : (0 : Int) ≤ ρ 5 ∧ ρ 5 ≤ 1 := hM.2.2.2.1 5 (0, 1) rfl
  have b6 : (0 : Int) ≤ ρ 6 ∧ ρ 6 ≤ 1 := hM.2.2.2.1 6 (0, 1) rfl
  have b7 : (0 : Int) ≤ ρ 7 ∧ ρ 7 ≤ 1 := hM.2.2.2.1 7 (0, 1) rfl
  have b8 : (0 : Int) ≤ ρ 8 ∧ ρ 8 ≤ 1 := hM.2.2.2.1 8 (0, 1) rfl
  have b9 : (0 : Int) ≤ ρ 9 ∧ ρ 9 ≤ 99 := hM.2.2.2.1 9 (0, 99) rfl
  have b10 : (0 : Int) ≤ ρ 10 ∧ ρ 10 ≤ 99 := hM.2.2.2.1 10 (0, 99) rfl
  have b11 : (0 : Int) ≤ ρ 11 ∧ ρ 11 ≤ 99 := hM.2.2.2.1 11 (0, 99) rfl
  have b12 : (0 : Int) ≤ ρ 12 ∧ ρ 12 ≤ 99 := hM.2.2.2.1 12 (0, 99) rfl
  have b13 : (0 : Int) ≤ ρ 13 ∧ ρ 13 ≤ 99 := hM.2.2.2.1 13 (0, 99) rfl
  have b14 : (0 : Int) ≤ ρ 14 ∧ ρ 14 ≤ 99 := hM.2.2.2.1 14 (0, 99) rfl
  have b15 : (0 : Int) ≤ ρ 15 ∧ ρ 15 ≤ 99 := hM.2.2.2.1 15 (0, 99) rfl
  have b16 : (0 : Int) ≤ ρ 16 ∧ ρ 16 ≤ 99 := hM.2.2.2.1 16 (0, 99) rfl
  have b17 : ((-241) : Int) ≤ ρ 17 ∧ ρ 17 ≤ 240 := hM.2.2.2.1 17 ((-241), 240) rfl
  have b18 : (0 : Int) ≤ ρ 18 ∧ ρ 18 ≤ 240 := hM.2.2.2.1 18 (0, 240) rfl
  have b19 : (0 : Int) ≤ ρ 19 ∧ ρ 19 ≤ 255 := hM.2.2.2.1 19 (0, 255) rfl
  have c0 : (0 + ((-1) * ρ 2 + (1 * ρ 3 + 0)) : Int) ≤ 0 := hM.2.2.2.2.1 (0, [(2, (-1)), (3, 1)]) (List.mem_of_getElem? (i := 0) rfl)
  have c1 : (0 + ((-1) * ρ 3 + (1 * ρ 18 + 0)) : Int) ≤ 0 := hM.2.2.2.2.1 (0, [(3, (-1)), (18, 1)]) (List.mem_of_getElem? (i := 1) rfl)
  have c2 : (0 + (1 * ρ 3 + ((-1) * ρ 18 + 0)) : Int) ≤ 0 := hM.2.2.2.2.1 (0, [(3, 1), (18, (-1))]) (List.mem_of_getElem? (i := 2) rfl)
  obtain ⟨ho, hs, hh⟩ := pTold13 hM 0 (0, []) rfl b0.1
  have hn := ho.1
  obtain ⟨-, -, hf⟩ := pTold20 hM 1 (0, []) rfl b1.1
  have en : ρ 2 = (wN h : Int) := (pPl hM 2 120 (2, []) rfl (by omega) 440 2 (by decide +kernel) rfl).symm.trans hs.1
  obtain ⟨p, ep⟩ : ∃ p : Nat, ρ 3 = (p : Int) := ⟨(ρ 3).toNat, by omega⟩
  have hp : p ≤ wN h := by omega
  obtain ⟨s1, s2⟩ := wSk_le (B := wB h) hp
  obtain ⟨g, eg⟩ : ∃ g : Nat, ρ 4 = (g : Int) := ⟨(ρ 4).toNat, by omega⟩
  have hg : g < 16 := by omega
  have hb0 : (fBt g 0 : Int) = ρ 5 := ((pfF hM hf 5 534 (0, [(4, 1)]) rfl (by decide) (by decide) g (by omega) (by show (0 + (1 * ρ 4 + 0) : Int) = _; omega)).trans (fA_B (k := 0) (by decide))).symm
  have hb1 : (fBt g 1 : Int) = ρ 6 := ((pfF hM hf 6 535 (0, [(4, 1)]) rfl (by decide) (by decide) g (by omega) (by show (0 + (1 * ρ 4 + 0) : Int) = _; omega)).trans (fA_B (k := 1) (by decide))).symm
  have hb2 : (fBt g 2 : Int) = ρ 7 := ((pfF hM hf 7 536 (0, [(4, 1)]) rfl (by decide) (by decide) g (by omega) (by show (0 + (1 * ρ 4 + 0) : Int) = _; omega)).trans (fA_B (k := 2) (by decide))).symm
  have hb3 : (fBt g 3 : Int) = ρ 8 := ((pfF hM hf 8 537 (0, [(4, 1)]) rfl (by decide) (by decide) g (by omega) (by show (0 + (1 * ρ 4 + 0) : Int) = _; omega)).trans (fA_B (k := 3) (by decide))).symm
  obtain ⟨v0, ev0⟩ : ∃ v0 : Nat, ρ 9 = (v0 : Int) := ⟨(ρ 9).toNat, by omega⟩
  obtain ⟨v1, ev1⟩ : ∃ v1 : Nat, ρ 10 = (v1 : Int) := ⟨(ρ 10).toNat, by omega⟩
  obtain ⟨v2, ev2⟩ : ∃ v2 : Nat, ρ 11 = (v2 : Int) := ⟨(ρ 11).toNat, by omega⟩
  obtain ⟨v3, ev3⟩ : ∃ v3 : Nat, ρ 12 = (v3 : Int) := ⟨(ρ 12).toNat, by omega⟩
  have er : ρ 17 = (fI (wN h) (wB h) 1 (g) (p)) := (pfF hM hf 17 531 (0, [(3, 16), (4, 1)]) rfl (by decide) (by decide) (16 * p + g) (by omega) (by show (0 + (16 * ρ 3 + (1 * ρ 4 + 0)) : Int) = _; omega)).trans (fA_IT1 hg hp hn)
  have ef0 : ρ 13 = (fV (wN h) (wB h) 1 0 (g) (p) (v0 : Int)) := (pfF hM hf 13 563 (0, [(3, 1600), (4, 100), (9, 1)]) rfl (by decide) (by decide) (1600 * p + 100 * g + v0) (by omega) (by show (0 + (1600 * ρ 3 + (100 * ρ 4 + (1 * ρ 9 + 0))) : Int) = _; omega)).trans (fA_I (s := 1) (j := 0) (r := 563) (Or.inr ⟨rfl, rfl, by decide⟩) hg hp (by omega))
  have ef1 : ρ 14 = (fV (wN h) (wB h) 1 1 (g) (p) (v1 : Int)) := (pfF hM hf 14 564 (0, [(3, 1600), (4, 100), (10, 1)]) rfl (by decide) (by decide) (1600 * p + 100 * g + v1) (by omega) (by show (0 + (1600 * ρ 3 + (100 * ρ 4 + (1 * ρ 10 + 0))) : Int) = _; omega)).trans (fA_I (s := 1) (j := 1) (r := 564) (Or.inr ⟨rfl, rfl, by decide⟩) hg hp (by omega))
  have ef2 : ρ 15 = (fV (wN h) (wB h) 1 2 (g) (p) (v2 : Int)) := (pfF hM hf 15 565 (0, [(3, 1600), (4, 100), (11, 1)]) rfl (by decide) (by decide) (1600 * p + 100 * g + v2) (by omega) (by show (0 + (1600 * ρ 3 + (100 * ρ 4 + (1 * ρ 11 + 0))) : Int) = _; omega)).trans (fA_I (s := 1) (j := 2) (r := 565) (Or.inr ⟨rfl, rfl, by decide⟩) hg hp (by omega))
  have ef3 : ρ 16 = (fV (wN h) (wB h) 1 3 (g) (p) (v3 : Int)) := (pfF hM hf 16 566 (0, [(3, 1600), (4, 100), (12, 1)]) rfl (by decide) (by decide) (1600 * p + 100 * g + v3) (by omega) (by show (0 + (1600 * ρ 3 + (100 * ρ 4 + (1 * ρ 12 + 0))) : Int) = _; omega)).trans (fA_I (s := 1) (j := 3) (r := 566) (Or.inr ⟨rfl, rfl, by decide⟩) hg hp (by omega))
  have eq : ρ 18 = ((wSk (wN h) (wB h) (p)) : Int) := pfS hM ho hh 18 (0, [(3, 1)]) rfl (p := p) (by omega) (by show (0 + (1 * ρ 3 + 0) : Int) = _; omega)
  have ec : ρ 19 = (wCh (wN h) (wB h) ((wSk (wN h) (wB h) (p)))) := pfC hM ho hh 19 (0, [(18, 1)]) rfl (p := (wSk (wN h) (wB h) (p))) (by omega) (by show (0 + (1 * ρ 18 + 0) : Int) = _; omega)
  have cbc := wCh_bd ho ((wSk (wN h) (wB h) (p)))
  have clc : (wCh (wN h) (wB h) ((wSk (wN h) (wB h) (p)))) ≠ 0 → (wSk (wN h) (wB h) (p)) < wN h := wCh_lt
  rcases fI_cs (n := wN h) (B := wB h) 1 g p hp hg with ⟨k9, i9, v9⟩ | ⟨k4, hq, hc⟩
  · rcases fIt_1 (c := (wCh (wN h) (wB h) ((wSk (wN h) (wB h) (p))))) (k := 9) k9 with ⟨z, -⟩ | ⟨z, -⟩ | ⟨z, -⟩ | ⟨z, -⟩ | ⟨-, z⟩
    · exact absurd z (by decide)
    · exact absurd z (by decide)
    · exact absurd z (by decide)
    · exact absurd z (by decide)
    · rw [i9] at er
      rw [v9] at ef0
      rw [v9] at ef1
      rw [v9] at ef2
      rw [v9] at ef3
      have hu : (wCh (wN h) (wB h) ((wSk (wN h) (wB h) (p)))) ≤ 97 ∨ (99 ≤ (wCh (wN h) (wB h) ((wSk (wN h) (wB h) (p)))) ∧ (wCh (wN h) (wB h) ((wSk (wN h) (wB h) (p)))) ≤ 99) ∨ (102 ≤ (wCh (wN h) (wB h) ((wSk (wN h) (wB h) (p)))) ∧ (wCh (wN h) (wB h) ((wSk (wN h) (wB h) (p)))) ≤ 109) ∨ 111 ≤ (wCh (wN h) (wB h) ((wSk (wN h) (wB h) (p)))) := by omega
      rcases hu with hu | hu | hu | hu
      · refine ⟨rIT1m_0, List.mem_of_getElem? (i := 0) rfl, pEnd [ρ 0, ρ 1, ρ 2, ρ 3, ρ 4, ρ 5, ρ 6, ρ 7, ρ 8, ρ 9, ρ 10, ρ 11, ρ 12, ρ 13, ρ 14, ρ 15, ρ 16, ρ 17, ρ 18, ρ 19] rfl ?_ ?_ ?_ ?_⟩
        · exact hL
        · intro k b hk
          cases hk
        · exact pAll1 (show (0 + (1 * ρ 3 + ((-1) * ρ 18 + 0)) : Int) ≤ 0 by omega) (pAll1 (show (0 + ((-1) * ρ 2 + (1 * ρ 18 + 0)) : Int) ≤ 0 by omega) (pAll1 (show ((-97) + (1 * ρ 19 + 0) : Int) ≤ 0 by omega) (pAll1 (show (0 + (1 * ρ 17 + ((-1) * ρ 18 + 0)) : Int) ≤ 0 by omega) (pAll1 (show (0 + ((-1) * ρ 17 + (1 * ρ 18 + 0)) : Int) ≤ 0 by omega) (pAll1 (show (0 + ((-1) * ρ 9 + (1 * ρ 13 + 0)) : Int) ≤ 0 by omega) (pAll1 (show (0 + (1 * ρ 9 + ((-1) * ρ 13 + 0)) : Int) ≤ 0 by omega) (pAll1 (show (0 + ((-1) * ρ 10 + (1 * ρ 14 + 0)) : Int) ≤ 0 by omega) (pAll1 (show (0 + (1 * ρ 10 + ((-1) * ρ 14 + 0)) : Int) ≤ 0 by omega) (pAll1 (show (0 + ((-1) * ρ 11 + (1 * ρ 15 + 0)) : Int) ≤ 0 by omega) (pAll1 (show (0 + (1 * ρ 11 + ((-1) * ρ 15 + 0)) : Int) ≤ 0 by omega) (pAll1 (show (0 + ((-1) * ρ 12 + (1 * ρ 16 + 0)) : Int) ≤ 0 by omega) (pAll1 (show (0 + (1 * ρ 12 + ((-1) * ρ 16 + 0)) : Int) ≤ 0 by omega) (pAll0)))))))))))))
        · exact pAll0
      · refine ⟨rIT1m_1, List.mem_of_getElem? (i := 1) rfl, pEnd [ρ 0, ρ 1, ρ 2, ρ 3, ρ 4, ρ 5, ρ 6, ρ 7, ρ 8, ρ 9, ρ 10, ρ 11, ρ 12, ρ 13, ρ 14, ρ 15, ρ 16, ρ 17, ρ 18, ρ 19] rfl ?_ ?_ ?_ ?_⟩
        · exact hL
        · intro k b hk
          cases hk
        · exact pAll1 (show (0 + (1 * ρ 3 + ((-1) * ρ 18 + 0)) : Int) ≤ 0 by omega) (pAll1 (show (0 + ((-1) * ρ 2 + (1 * ρ 18 + 0)) : Int) ≤ 0 by omega) (pAll1 (show (99 + ((-1) * ρ 19 + 0) : Int) ≤ 0 by omega) (pAll1 (show ((-99) + (1 * ρ 19 + 0) : Int) ≤ 0 by omega) (pAll1 (show (0 + (1 * ρ 17 + ((-1) * ρ 18 + 0)) : Int) ≤ 0 by omega) (pAll1 (show (0 + ((-1) * ρ 17 + (1 * ρ 18 + 0)) : Int) ≤ 0 by omega) (pAll1 (show (0 + ((-1) * ρ 9 + (1 * ρ 13 + 0)) : Int) ≤ 0 by omega) (pAll1 (show (0 + (1 * ρ 9 + ((-1) * ρ 13 + 0)) : Int) ≤ 0 by omega) (pAll1 (show (0 + ((-1) * ρ 10 + (1 * ρ 14 + 0)) : Int) ≤ 0 by omega) (pAll1 (show (0 + (1 * ρ 10 + ((-1) * ρ 14 + 0)) : Int) ≤ 0 by omega) (pAll1 (show (0 + ((-1) * ρ 11 + (1 * ρ 15 + 0)) : Int) ≤ 0 by omega) (pAll1 (show (0 + (1 * ρ 11 + ((-1) * ρ 15 + 0)) : Int) ≤ 0 by omega) (pAll1 (show (0 + ((-1) * ρ 12 + (1 * ρ 16 + 0)) : Int) ≤ 0 by omega) (pAll1 (show (0 + (1 * ρ 12 + ((-1) * ρ 16 + 0)) : Int) ≤ 0 by omega) (pAll0))))))))))))))
        · exact pAll0
      · refine ⟨rIT1m_2, List.mem_of_getElem? (i := 2) rfl, pEnd [ρ 0, ρ 1, ρ 2, ρ 3, ρ 4, ρ 5, ρ 6, ρ 7, ρ 8, ρ 9, ρ 10, ρ 11, ρ 12, ρ 13, ρ 14, ρ 15, ρ 16, ρ 17, ρ 18, ρ 19] rfl ?_ ?_ ?_ ?_⟩
        · exact hL
        · intro k b hk
          cases hk
        · exact pAll1 (show (0 + (1 * ρ 3 + ((-1) * ρ 18 + 0)) : Int) ≤ 0 by omega) (pAll1 (show (0 + ((-1) * ρ 2 + (1 * ρ 18 + 0)) : Int) ≤ 0 by omega) (pAll1 (show (102 + ((-1) * ρ 19 + 0) : Int) ≤ 0 by omega) (pAll1 (show ((-109) + (1 * ρ 19 + 0) : Int) ≤ 0 by omega) (pAll1 (show (0 + (1 * ρ 17 + ((-1) * ρ 18 + 0)) : Int) ≤ 0 by omega) (pAll1 (show (0 + ((-1) * ρ 17 + (1 * ρ 18 + 0)) : Int) ≤ 0 by omega) (pAll1 (show (0 + ((-1) * ρ 9 + (1 * ρ 13 + 0)) : Int) ≤ 0 by omega) (pAll1 (show (0 + (1 * ρ 9 + ((-1) * ρ 13 + 0)) : Int) ≤ 0 by omega) (pAll1 (show (0 + ((-1) * ρ 10 + (1 * ρ 14 + 0)) : Int) ≤ 0 by omega) (pAll1 (show (0 + (1 * ρ 10 + ((-1) * ρ 14 + 0)) : Int) ≤ 0 by omega) (pAll1 (show (0 + ((-1) * ρ 11 + (1 * ρ 15 + 0)) : Int) ≤ 0 by omega) (pAll1 (show (0 + (1 * ρ 11 + ((-1) * ρ 15 + 0)) : Int) ≤ 0 by omega) (pAll1 (show (0 + ((-1) * ρ 12 + (1 * ρ 16 + 0)) : Int) ≤ 0 by omega) (pAll1 (show (0 + (1 * ρ 12 + ((-1) * ρ 16 + 0)) : Int) ≤ 0 by omega) (pAll0))))))))))))))
        · exact pAll0
      · refine ⟨rIT1m_3, List.mem_of_getElem? (i := 3) rfl, pEnd [ρ 0, ρ 1, ρ 2, ρ 3, ρ 4, ρ 5, ρ 6, ρ 7, ρ 8, ρ 9, ρ 10, ρ 11, ρ 12, ρ 13, ρ 14, ρ 15, ρ 16, ρ 17, ρ 18, ρ 19] rfl ?_ ?_ ?_ ?_⟩
        · exact hL
        · intro k b hk
          cases hk
        · exact pAll1 (show (0 + (1 * ρ 3 + ((-1) * ρ 18 + 0)) : Int) ≤ 0 by omega) (pAll1 (show (0 + ((-1) * ρ 2 + (1 * ρ 18 + 0)) : Int) ≤ 0 by omega) (pAll1 (show (111 + ((-1) * ρ 19 + 0) : Int) ≤ 0 by omega) (pAll1 (show (0 + (1 * ρ 17 + ((-1) * ρ 18 + 0)) : Int) ≤ 0 by omega) (pAll1 (show (0 + ((-1) * ρ 17 + (1 * ρ 18 + 0)) : Int) ≤ 0 by omega) (pAll1 (show (0 + ((-1) * ρ 9 + (1 * ρ 13 + 0)) : Int) ≤ 0 by omega) (pAll1 (show (0 + (1 * ρ 9 + ((-1) * ρ 13 + 0)) : Int) ≤ 0 by omega) (pAll1 (show (0 + ((-1) * ρ 10 + (1 * ρ 14 + 0)) : Int) ≤ 0 by omega) (pAll1 (show (0 + (1 * ρ 10 + ((-1) * ρ 14 + 0)) : Int) ≤ 0 by omega) (pAll1 (show (0 + ((-1) * ρ 11 + (1 * ρ 15 + 0)) : Int) ≤ 0 by omega) (pAll1 (show (0 + (1 * ρ 11 + ((-1) * ρ 15 + 0)) : Int) ≤ 0 by omega) (pAll1 (show (0 + ((-1) * ρ 12 + (1 * ρ 16 + 0)) : Int) ≤ 0 by omega) (pAll1 (show (0 + (1 * ρ 12 + ((-1) * ρ 16 + 0)) : Int) ≤ 0 by omega) (pAll0)))))))))))))
        · exact pAll0
  · obtain ⟨k, ek⟩ : ∃ k, fK (wN h) (wB h) 1 p = k := ⟨_, rfl⟩
    rw [ek] at k4 hc
    rcases fIt_1 (c := (wCh (wN h) (wB h) ((wSk (wN h) (wB h) (p))))) (k := k) ek with ⟨rfl, z⟩ | ⟨rfl, z⟩ | ⟨rfl, z⟩ | ⟨rfl, z⟩ | ⟨rfl, -⟩
    · rcases hc with ⟨c8, c9⟩ | ⟨c8, c9, d0, d⟩
      · rw [c9] at er
        unfold wFl at er
        rw [c8] at hb0
        refine ⟨rIT1m_4, List.mem_of_getElem? (i := 4) rfl, pEnd [ρ 0, ρ 1, ρ 2, ρ 3, ρ 4, ρ 5, ρ 6, ρ 7, ρ 8, ρ 9, ρ 10, ρ 11, ρ 12, ρ 13, ρ 14, ρ 15, ρ 16, ρ 17, ρ 18, ρ 19] rfl ?_ ?_ ?_ ?_⟩
        · exact hL
        · intro k b hk
          cases hk
        · exact pAll1 (show (0 + (1 * ρ 3 + ((-1) * ρ 18 + 0)) : Int) ≤ 0 by omega) (pAll1 (show (0 + ((-1) * ρ 2 + (1 * ρ 18 + 0)) : Int) ≤ 0 by omega) (pAll1 (show (1 + ((-1) * ρ 2 + (1 * ρ 18 + 0)) : Int) ≤ 0 by omega) (pAll1 (show (1 + ((-1) * ρ 19 + 0) : Int) ≤ 0 by omega) (pAll1 (show ((-110) + (1 * ρ 19 + 0) : Int) ≤ 0 by omega) (pAll1 (show (110 + ((-1) * ρ 19 + 0) : Int) ≤ 0 by omega) (pAll1 (show ((-1) + (1 * ρ 5 + 0) : Int) ≤ 0 by omega) (pAll1 (show (1 + ((-1) * ρ 5 + 0) : Int) ≤ 0 by omega) (pAll1 (show (1 + (1 * ρ 17 + (1 * ρ 18 + 0)) : Int) ≤ 0 by omega) (pAll1 (show ((-1) + ((-1) * ρ 17 + ((-1) * ρ 18 + 0)) : Int) ≤ 0 by omega) (pAll1 (show (1 + (1 * ρ 3 + (1 * ρ 17 + 0)) : Int) ≤ 0 by omega) (pAll1 (show ((-1) + ((-1) * ρ 3 + ((-1) * ρ 17 + 0)) : Int) ≤ 0 by omega) (pAll0))))))))))))
        · exact pAll0
      · rw [c8] at hb0
        have c9 : (wSk (wN h) (wB h) (p)) + 1 ≤ (wSk (wN h) (wB h) ((wSk (wN h) (wB h) (p)) + 1)) := c9
        have d0 : (wSk (wN h) (wB h) ((wSk (wN h) (wB h) (p)) + 1)) ≤ wN h := d0
        rcases d with ⟨d1, d2, d3, d4⟩ | ⟨e, d1, d2, d3, d4, d5, d6⟩
        · have d1 : (fNr (wN h) (wB h) (wSk (wN h) (wB h) ((wSk (wN h) (wB h) (p)) + 1))) < 0 := d1
          have d2 : (fI (wN h) (wB h) 1 (g) (p)) = (fNr (wN h) (wB h) (wSk (wN h) (wB h) ((wSk (wN h) (wB h) (p)) + 1))) := d2
          have d3 : ((wSk (wN h) (wB h) ((wSk (wN h) (wB h) (p)) + 1)) : Int) ≤ -(fNr (wN h) (wB h) (wSk (wN h) (wB h) ((wSk (wN h) (wB h) (p)) + 1))) - 1 := d3
          have d4 : -(fNr (wN h) (wB h) (wSk (wN h) (wB h) ((wSk (wN h) (wB h) (p)) + 1))) - 1 ≤ (wN h : Int) := d4
          rw [d2] at er
          refine ⟨rIT1m_5, List.mem_of_getElem? (i := 5) rfl, pEnd [ρ 0, ρ 1, ρ 2, ρ 3, ρ 4, ρ 5, ρ 6, ρ 7, ρ 8, ρ 9, ρ 10, ρ 11, ρ 12, ρ 13, ρ 14, ρ 15, ρ 16, ρ 17, ρ 18, ρ 19, ((wSk (wN h) (wB h) ((wSk (wN h) (wB h) (p)) + 1)) : Int), (fNr (wN h) (wB h) (wSk (wN h) (wB h) ((wSk (wN h) (wB h) (p)) + 1)))] rfl ?_ ?_ ?_ ?_⟩
          · intro j hj
            match j, hj with
            | 0, _ => exact q0.symm
            | 1, _ => exact q1.symm
            | 2, _ => exact q2.symm
            | 3, _ => exact q3.symm
            | 4, _ => exact q4.symm
            | 5, _ => exact q5.symm
            | 6, _ => exact q6.symm
            | 7, _ => exact q7.symm
            | 8, _ => exact q8.symm
            | 9, _ => exact q9.symm
            | 10, _ => exact q10.symm
            | 11, _ => exact q11.symm
            | 12, _ => exact q12.symm
            | 13, _ => exact q13.symm
            | 14, _ => exact q14.symm
            | 15, _ => exact q15.symm
            | 16, _ => exact q16.symm
            | 17, _ => exact q17.symm
            | 18, _ => exact q18.symm
            | 19, _ => exact q19.symm
            | k + 20, hj => exact absurd hj (by show ¬ (k + 20 < 20); omega)
          · intro k b hk
            match k, hk with
            | 0, hk => cases hk; exact (show (0 : Int) ≤ ((wSk (wN h) (wB h) ((wSk (wN h) (wB h) (p)) + 1)) : Int) ∧ ((wSk (wN h) (wB h) ((wSk (wN h) (wB h) (p)) + 1)) : Int) ≤ (240 : Int) by omega)
            | 1, hk => cases hk; exact (show ((-241) : Int) ≤ (fNr (wN h) (wB h) (wSk (wN h) (wB h) ((wSk (wN h) (wB h) (p)) + 1))) ∧ (fNr (wN h) (wB h) (wSk (wN h) (wB h) ((wSk (wN h) (wB h) (p)) + 1))) ≤ ((-1) : Int) by omega)
            | k + 2, hk => cases hk
          · exact pAll1 (show (0 + (1 * ρ 3 + ((-1) * ρ 18 + 0)) : Int) ≤ 0 by omega) (pAll1 (show (0 + ((-1) * ρ 2 + (1 * ρ 18 + 0)) : Int) ≤ 0 by omega) (pAll1 (show (1 + ((-1) * ρ 2 + (1 * ρ 18 + 0)) : Int) ≤ 0 by omega) (pAll1 (show (1 + ((-1) * ρ 19 + 0) : Int) ≤ 0 by omega) (pAll1 (show ((-110) + (1 * ρ 19 + 0) : Int) ≤ 0 by omega) (pAll1 (show (110 + ((-1) * ρ 19 + 0) : Int) ≤ 0 by omega) (pAll1 (show (0 + (1 * ρ 5 + 0) : Int) ≤ 0 by omega) (pAll1 (show (0 + ((-1) * ρ 5 + 0) : Int) ≤ 0 by omega) (pAll1 (show (1 + (1 * ρ 18 + ((-1) * ((wSk (wN h) (wB h) ((wSk (wN h) (wB h) (p)) + 1)) : Int) + 0)) : Int) ≤ 0 by omega) (pAll1 (show (0 + ((-1) * ρ 2 + (1 * ((wSk (wN h) (wB h) ((wSk (wN h) (wB h) (p)) + 1)) : Int) + 0)) : Int) ≤ 0 by omega) (pAll1 (show (0 + (1 * ρ 17 + ((-1) * (fNr (wN h) (wB h) (wSk (wN h) (wB h) ((wSk (wN h) (wB h) (p)) + 1))) + 0)) : Int) ≤ 0 by omega) (pAll1 (show (0 + ((-1) * ρ 17 + (1 * (fNr (wN h) (wB h) (wSk (wN h) (wB h) ((wSk (wN h) (wB h) (p)) + 1))) + 0)) : Int) ≤ 0 by omega) (pAll1 (show (1 + (1 * ((wSk (wN h) (wB h) ((wSk (wN h) (wB h) (p)) + 1)) : Int) + (1 * (fNr (wN h) (wB h) (wSk (wN h) (wB h) ((wSk (wN h) (wB h) (p)) + 1))) + 0)) : Int) ≤ 0 by omega) (pAll1 (show ((-1) + ((-1) * ρ 2 + ((-1) * (fNr (wN h) (wB h) (wSk (wN h) (wB h) ((wSk (wN h) (wB h) (p)) + 1))) + 0)) : Int) ≤ 0 by omega) (pAll0))))))))))))))
          · exact pAll1 (pgS ho hh ((wSk (wN h) (wB h) (p)) + 1) (by omega) (show (1 + (1 * ρ 18 + 0) : Int) = _ by omega) (show (0 + (1 * ((wSk (wN h) (wB h) ((wSk (wN h) (wB h) (p)) + 1)) : Int) + 0) : Int) = _ by omega)) (pAll1 (pgF hf 542 (by decide) (by decide) ((wSk (wN h) (wB h) ((wSk (wN h) (wB h) (p)) + 1))) (by omega) (show (0 + (1 * ((wSk (wN h) (wB h) ((wSk (wN h) (wB h) (p)) + 1)) : Int) + 0) : Int) = _ by omega) (show (0 + (1 * (fNr (wN h) (wB h) (wSk (wN h) (wB h) ((wSk (wN h) (wB h) (p)) + 1))) + 0) : Int) = _ by rw [fA_NR d0 hn]; omega)) (pAll0))
        · have d1 : (fNr (wN h) (wB h) (wSk (wN h) (wB h) ((wSk (wN h) (wB h) (p)) + 1))) = (e : Int) := d1
          have d2 : (wSk (wN h) (wB h) ((wSk (wN h) (wB h) (p)) + 1)) < e := d2
          have d4 : 0 ≤ (fNv (wN h) (wB h) (wSk (wN h) (wB h) ((wSk (wN h) (wB h) (p)) + 1))) := d4
          have d5 : (fNv (wN h) (wB h) (wSk (wN h) (wB h) ((wSk (wN h) (wB h) (p)) + 1))) ≤ 99 := d5
          obtain ⟨w, ew⟩ : ∃ w : Nat, (fNv (wN h) (wB h) (wSk (wN h) (wB h) ((wSk (wN h) (wB h) (p)) + 1))) = (w : Int) := ⟨(fNv (wN h) (wB h) (wSk (wN h) (wB h) ((wSk (wN h) (wB h) (p)) + 1))).toNat, by omega⟩
          have l1 : fLo 1 0 = 0 := rfl
          have l2 : fHi 1 0 = 10 := rfl
          rw [l1, l2] at d6
          rcases d6 with ⟨d7, d8⟩ | ⟨d7, d8, d9, d10, d11⟩
          · rw [d8] at er
            have d7 : (fNv (wN h) (wB h) (wSk (wN h) (wB h) ((wSk (wN h) (wB h) (p)) + 1))) < 0 ∨ 10 < (fNv (wN h) (wB h) (wSk (wN h) (wB h) ((wSk (wN h) (wB h) (p)) + 1))) := d7
            rcases d7 with d7 | d7
            · omega
            · refine ⟨rIT1m_7, List.mem_of_getElem? (i := 7) rfl, pEnd [ρ 0, ρ 1, ρ 2, ρ 3, ρ 4, ρ 5, ρ 6, ρ 7, ρ 8, ρ 9, ρ 10, ρ 11, ρ 12, ρ 13, ρ 14, ρ 15, ρ 16, ρ 17, ρ 18, ρ 19, ((wSk (wN h) (wB h) ((wSk (wN h) (wB h) (p)) + 1)) : Int), (e : Int), (w : Int)] rfl ?_ ?_ ?_ ?_⟩
              · intro j hj
                match j, hj with
                | 0, _ => exact q0.symm
                | 1, _ => exact q1.symm
                | 2, _ => exact q2.symm
                | 3, _ => exact q3.symm
                | 4, _ => exact q4.symm
                | 5, _ => exact q5.symm
                | 6, _ => exact q6.symm
                | 7, _ => exact q7.symm
                | 8, _ => exact q8.symm
                | 9, _ => exact q9.symm
                | 10, _ => exact q10.symm
                | 11, _ => exact q11.symm
                | 12, _ => exact q12.symm
                | 13, _ => exact q13.symm
                | 14, _ => exact q14.symm
                | 15, _ => exact q15.symm
                | 16, _ => exact q16.symm
                | 17, _ => exact q17.symm
                | 18, _ => exact q18.symm
                | 19, _ => exact q19.symm
                | k + 20, hj => exact absurd hj (by show ¬ (k + 20 < 20); omega)
              · intro k b hk
                match k, hk with
                | 0, hk => cases hk; exact (show (0 : Int) ≤ ((wSk (wN h) (wB h) ((wSk (wN h) (wB h) (p)) + 1)) : Int) ∧ ((wSk (wN h) (wB h) ((wSk (wN h) (wB h) (p)) + 1)) : Int) ≤ (240 : Int) by omega)
                | 1, hk => cases hk; exact (show (0 : Int) ≤ (e : Int) ∧ (e : Int) ≤ (240 : Int) by omega)
                | 2, hk => cases hk; exact (show (0 : Int) ≤ (w : Int) ∧ (w : Int) ≤ (99 : Int) by omega)
                | k + 3, hk => cases hk
              · exact pAll1 (show (0 + (1 * ρ 3 + ((-1) * ρ 18 + 0)) : Int) ≤ 0 by omega) (pAll1 (show (0 + ((-1) * ρ 2 + (1 * ρ 18 + 0)) : Int) ≤ 0 by omega) (pAll1 (show (1 + ((-1) * ρ 2 + (1 * ρ 18 + 0)) : Int) ≤ 0 by omega) (pAll1 (show (1 + ((-1) * ρ 19 + 0) : Int) ≤ 0 by omega) (pAll1 (show ((-110) + (1 * ρ 19 + 0) : Int) ≤ 0 by omega) (pAll1 (show (110 + ((-1) * ρ 19 + 0) : Int) ≤ 0 by omega) (pAll1 (show (0 + (1 * ρ 5 + 0) : Int) ≤ 0 by omega) (pAll1 (show (0 + ((-1) * ρ 5 + 0) : Int) ≤ 0 by omega) (pAll1 (show (1 + (1 * ρ 18 + ((-1) * ((wSk (wN h) (wB h) ((wSk (wN h) (wB h) (p)) + 1)) : Int) + 0)) : Int) ≤ 0 by omega) (pAll1 (show (0 + ((-1) * ρ 2 + (1 * ((wSk (wN h) (wB h) ((wSk (wN h) (wB h) (p)) + 1)) : Int) + 0)) : Int) ≤ 0 by omega) (pAll1 (show (1 + (1 * ((wSk (wN h) (wB h) ((wSk (wN h) (wB h) (p)) + 1)) : Int) + ((-1) * (e : Int) + 0)) : Int) ≤ 0 by omega) (pAll1 (show (0 + ((-1) * ρ 2 + (1 * (e : Int) + 0)) : Int) ≤ 0 by omega) (pAll1 (show (11 + ((-1) * (w : Int) + 0) : Int) ≤ 0 by omega) (pAll1 (show (0 + (1 * ρ 17 + (1 * (e : Int) + 0)) : Int) ≤ 0 by omega) (pAll1 (show (0 + ((-1) * ρ 17 + ((-1) * (e : Int) + 0)) : Int) ≤ 0 by omega) (pAll0)))))))))))))))
              · exact pAll1 (pgS ho hh ((wSk (wN h) (wB h) (p)) + 1) (by omega) (show (1 + (1 * ρ 18 + 0) : Int) = _ by omega) (show (0 + (1 * ((wSk (wN h) (wB h) ((wSk (wN h) (wB h) (p)) + 1)) : Int) + 0) : Int) = _ by omega)) (pAll1 (pgF hf 542 (by decide) (by decide) ((wSk (wN h) (wB h) ((wSk (wN h) (wB h) (p)) + 1))) (by omega) (show (0 + (1 * ((wSk (wN h) (wB h) ((wSk (wN h) (wB h) (p)) + 1)) : Int) + 0) : Int) = _ by omega) (show (0 + (1 * (e : Int) + 0) : Int) = _ by rw [fA_NR d0 hn]; omega)) (pAll1 (pgF hf 543 (by decide) (by decide) ((wSk (wN h) (wB h) ((wSk (wN h) (wB h) (p)) + 1))) (by omega) (show (0 + (1 * ((wSk (wN h) (wB h) ((wSk (wN h) (wB h) (p)) + 1)) : Int) + 0) : Int) = _ by omega) (show (0 + (1 * (w : Int) + 0) : Int) = _ by rw [fA_NV d4 d5]; omega)) (pAll0)))
          · have d7 : 0 ≤ (fNv (wN h) (wB h) (wSk (wN h) (wB h) ((wSk (wN h) (wB h) (p)) + 1))) := d7
            have d8 : (fNv (wN h) (wB h) (wSk (wN h) (wB h) ((wSk (wN h) (wB h) (p)) + 1))) ≤ 10 := d8
            have d9 : g + 1 < 16 := d9
            have d10 : (fI (wN h) (wB h) 1 (g) (p)) = (fI (wN h) (wB h) 1 (g + 1) (e)) := d10
            rw [d10] at er
            have x0 : (fV (wN h) (wB h) 1 0 (g) (p) (v0 : Int)) = (fV (wN h) (wB h) 1 0 (g + 1) (e) (w : Int)) := by
              have y := d11 0 (v0 : Int)
              rw [if_pos rfl] at y
              have y : (fV (wN h) (wB h) 1 0 (g) (p) (v0 : Int)) = (fV (wN h) (wB h) 1 0 (g + 1) (e) (fNv (wN h) (wB h) (wSk (wN h) (wB h) ((wSk (wN h) (wB h) (p)) + 1)))) := y
              rw [ew] at y
              exact y
            rw [x0] at ef0
            have x1 : (fV (wN h) (wB h) 1 1 (g) (p) (v1 : Int)) = (fV (wN h) (wB h) 1 1 (g + 1) (e) (v1 : Int)) := by
              have y := d11 1 (v1 : Int)
              rw [if_neg (by decide)] at y
              exact y
            rw [x1] at ef1
            have x2 : (fV (wN h) (wB h) 1 2 (g) (p) (v2 : Int)) = (fV (wN h) (wB h) 1 2 (g + 1) (e) (v2 : Int)) := by
              have y := d11 2 (v2 : Int)
              rw [if_neg (by decide)] at y
              exact y
            rw [x2] at ef2
            have x3 : (fV (wN h) (wB h) 1 3 (g) (p) (v3 : Int)) = (fV (wN h) (wB h) 1 3 (g + 1) (e) (v3 : Int)) := by
              have y := d11 3 (v3 : Int)
              rw [if_neg (by decide)] at y
              exact y
            rw [x3] at ef3
            refine ⟨rIT1m_6, List.mem_of_getElem? (i := 6) rfl, pEnd [ρ 0, ρ 1, ρ 2, ρ 3, ρ 4, ρ 5, ρ 6, ρ 7, ρ 8, ρ 9, ρ 10, ρ 11, ρ 12, ρ 13, ρ 14, ρ 15, ρ 16, ρ 17, ρ 18, ρ 19, ((wSk (wN h) (wB h) ((wSk (wN h) (wB h) (p)) + 1)) : Int), (e : Int), (w : Int)] rfl ?_ ?_ ?_ ?_⟩
            · intro j hj
              match j, hj with
              | 0, _ => exact q0.symm
              | 1, _ => exact q1.symm
              | 2, _ => exact q2.symm
              | 3, _ => exact q3.symm
              | 4, _ => exact q4.symm
              | 5, _ => exact q5.symm
              | 6, _ => exact q6.symm
              | 7, _ => exact q7.symm
              | 8, _ => exact q8.symm
              | 9, _ => exact q9.symm
              | 10, _ => exact q10.symm
              | 11, _ => exact q11.symm
              | 12, _ => exact q12.symm
              | 13, _ => exact q13.symm
              | 14, _ => exact q14.symm
              | 15, _ => exact q15.symm
              | 16, _ => exact q16.symm
              | 17, _ => exact q17.symm
              | 18, _ => exact q18.symm
              | 19, _ => exact q19.symm
              | k + 20, hj => exact absurd hj (by show ¬ (k + 20 < 20); omega)
            · intro k b hk
              match k, hk with
              | 0, hk => cases hk; exact (show (0 : Int) ≤ ((wSk (wN h) (wB h) ((wSk (wN h) (wB h) (p)) + 1)) : Int) ∧ ((wSk (wN h) (wB h) ((wSk (wN h) (wB h) (p)) + 1)) : Int) ≤ (240 : Int) by omega)
              | 1, hk => cases hk; exact (show (0 : Int) ≤ (e : Int) ∧ (e : Int) ≤ (240 : Int) by omega)
              | 2, hk => cases hk; exact (show (0 : Int) ≤ (w : Int) ∧ (w : Int) ≤ (99 : Int) by omega)
              | k + 3, hk => cases hk
            · exact pAll1 (show (0 + (1 * ρ 3 + ((-1) * ρ 18 + 0)) : Int) ≤ 0 by omega) (pAll1 (show (0 + ((-1) * ρ 2 + (1 * ρ 18 + 0)) : Int) ≤ 0 by omega) (pAll1 (show (1 + ((-1) * ρ 2 + (1 * ρ 18 + 0)) : Int) ≤ 0 by omega) (pAll1 (show (1 + ((-1) * ρ 19 + 0) : Int) ≤ 0 by omega) (pAll1 (show ((-110) + (1 * ρ 19 + 0) : Int) ≤ 0 by omega) (pAll1 (show (110 + ((-1) * ρ 19 + 0) : Int) ≤ 0 by omega) (pAll1 (show (0 + (1 * ρ 5 + 0) : Int) ≤ 0 by omega) (pAll1 (show (0 + ((-1) * ρ 5 + 0) : Int) ≤ 0 by omega) (pAll1 (show (1 + (1 * ρ 18 + ((-1) * ((wSk (wN h) (wB h) ((wSk (wN h) (wB h) (p)) + 1)) : Int) + 0)) : Int) ≤ 0 by omega) (pAll1 (show (0 + ((-1) * ρ 2 + (1 * ((wSk (wN h) (wB h) ((wSk (wN h) (wB h) (p)) + 1)) : Int) + 0)) : Int) ≤ 0 by omega) (pAll1 (show (1 + (1 * ((wSk (wN h) (wB h) ((wSk (wN h) (wB h) (p)) + 1)) : Int) + ((-1) * (e : Int) + 0)) : Int) ≤ 0 by omega) (pAll1 (show (0 + ((-1) * ρ 2 + (1 * (e : Int) + 0)) : Int) ≤ 0 by omega) (pAll1 (show (0 + ((-1) * (w : Int) + 0) : Int) ≤ 0 by omega) (pAll1 (show ((-10) + (1 * (w : Int) + 0) : Int) ≤ 0 by omega) (pAll0))))))))))))))
            · exact pAll1 (pgS ho hh ((wSk (wN h) (wB h) (p)) + 1) (by omega) (show (1 + (1 * ρ 18 + 0) : Int) = _ by omega) (show (0 + (1 * ((wSk (wN h) (wB h) ((wSk (wN h) (wB h) (p)) + 1)) : Int) + 0) : Int) = _ by omega)) (pAll1 (pgF hf 542 (by decide) (by decide) ((wSk (wN h) (wB h) ((wSk (wN h) (wB h) (p)) + 1))) (by omega) (show (0 + (1 * ((wSk (wN h) (wB h) ((wSk (wN h) (wB h) (p)) + 1)) : Int) + 0) : Int) = _ by omega) (show (0 + (1 * (e : Int) + 0) : Int) = _ by rw [fA_NR d0 hn]; omega)) (pAll1 (pgF hf 543 (by decide) (by decide) ((wSk (wN h) (wB h) ((wSk (wN h) (wB h) (p)) + 1))) (by omega) (show (0 + (1 * ((wSk (wN h) (wB h) ((wSk (wN h) (wB h) (p)) + 1)) : Int) + 0) : Int) = _ by omega) (show (0 + (1 * (w : Int) + 0) : Int) = _ by rw [fA_NV d4 d5]; omega)) (pAll1 (pgF hf 531 (by decide) (by decide) (16 * e + (g + 1)) (by omega) (show (1 + (1 * ρ 4 + (16 * (e : Int) + 0)) : Int) = _ by omega) (show (0 + (1 * ρ 17 + 0) : Int) = _ by rw [fA_IT1 (g := g + 1) d9 d3 hn]; omega)) (pAll1 (pgF hf 563 (by decide) (by decide) (1600 * e + 100 * (g + 1) + w) (by omega) (show (100 + (100 * ρ 4 + (1600 * (e : Int) + (1 * (w : Int) + 0))) : Int) = _ by omega) (show (0 + (1 * ρ 13 + 0) : Int) = _ by rw [fA_I (s := 1) (j := 0) (r := 563) (g := g + 1) (v := w) (Or.inr ⟨rfl, rfl, by decide⟩) d9 d3 (by omega)]; omega)) (pAll1 (pgF hf 564 (by decide) (by decide) (1600 * e + 100 * (g + 1) + v1) (by omega) (show (100 + (100 * ρ 4 + (1 * ρ 10 + (1600 * (e : Int) + 0))) : Int) = _ by omega) (show (0 + (1 * ρ 14 + 0) : Int) = _ by rw [fA_I (s := 1) (j := 1) (r := 564) (g := g + 1) (v := v1) (Or.inr ⟨rfl, rfl, by decide⟩) d9 d3 (by omega)]; omega)) (pAll1 (pgF hf 565 (by decide) (by decide) (1600 * e + 100 * (g + 1) + v2) (by omega) (show (100 + (100 * ρ 4 + (1 * ρ 11 + (1600 * (e : Int) + 0))) : Int) = _ by omega) (show (0 + (1 * ρ 15 + 0) : Int) = _ by rw [fA_I (s := 1) (j := 2) (r := 565) (g := g + 1) (v := v2) (Or.inr ⟨rfl, rfl, by decide⟩) d9 d3 (by omega)]; omega)) (pAll1 (pgF hf 566 (by decide) (by decide) (1600 * e + 100 * (g + 1) + v3) (by omega) (show (100 + (100 * ρ 4 + (1 * ρ 12 + (1600 * (e : Int) + 0))) : Int) = _ by omega) (show (0 + (1 * ρ 16 + 0) : Int) = _ by rw [fA_I (s := 1) (j := 3) (r := 566) (g := g + 1) (v := v3) (Or.inr ⟨rfl, rfl, by decide⟩) d9 d3 (by omega)]; omega)) (pAll0))))))))
    · rcases hc with ⟨c8, c9⟩ | ⟨c8, c9, d0, d⟩
      · rw [c9] at er
        unfold wFl at er
        rw [c8] at hb1
        refine ⟨rIT1m_8, List.mem_of_getElem? (i := 8) rfl, pEnd [ρ 0, ρ 1, ρ 2, ρ 3, ρ 4, ρ 5, ρ 6, ρ 7, ρ 8, ρ 9, ρ 10, ρ 11, ρ 12, ρ 13, ρ 14, ρ 15, ρ 16, ρ 17, ρ 18, ρ 19] rfl ?_ ?_ ?_ ?_⟩
        · exact hL
        · intro k b hk
          cases hk
        · exact pAll1 (show (0 + (1 * ρ 3 + ((-1) * ρ 18 + 0)) : Int) ≤ 0 by omega) (pAll1 (show (0 + ((-1) * ρ 2 + (1 * ρ 18 + 0)) : Int) ≤ 0 by omega) (pAll1 (show (1 + ((-1) * ρ 2 + (1 * ρ 18 + 0)) : Int) ≤ 0 by omega) (pAll1 (show (1 + ((-1) * ρ 19 + 0) : Int) ≤ 0 by omega) (pAll1 (show ((-100) + (1 * ρ 19 + 0) : Int) ≤ 0 by omega) (pAll1 (show (100 + ((-1) * ρ 19 + 0) : Int) ≤ 0 by omega) (pAll1 (show ((-1) + (1 * ρ 6 + 0) : Int) ≤ 0 by omega) (pAll1 (show (1 + ((-1) * ρ 6 + 0) : Int) ≤ 0 by omega) (pAll1 (show (1 + (1 * ρ 17 + (1 * ρ 18 + 0)) : Int) ≤ 0 by omega) (pAll1 (show ((-1) + ((-1) * ρ 17 + ((-1) * ρ 18 + 0)) : Int) ≤ 0 by omega) (pAll1 (show (1 + (1 * ρ 3 + (1 * ρ 17 + 0)) : Int) ≤ 0 by omega) (pAll1 (show ((-1) + ((-1) * ρ 3 + ((-1) * ρ 17 + 0)) : Int) ≤ 0 by omega) (pAll0))))))))))))
        · exact pAll0
      · rw [c8] at hb1
        have c9 : (wSk (wN h) (wB h) (p)) + 1 ≤ (wSk (wN h) (wB h) ((wSk (wN h) (wB h) (p)) + 1)) := c9
        have d0 : (wSk (wN h) (wB h) ((wSk (wN h) (wB h) (p)) + 1)) ≤ wN h := d0
        rcases d with ⟨d1, d2, d3, d4⟩ | ⟨e, d1, d2, d3, d4, d5, d6⟩
        · have d1 : (fNr (wN h) (wB h) (wSk (wN h) (wB h) ((wSk (wN h) (wB h) (p)) + 1))) < 0 := d1
          have d2 : (fI (wN h) (wB h) 1 (g) (p)) = (fNr (wN h) (wB h) (wSk (wN h) (wB h) ((wSk (wN h) (wB h) (p)) + 1))) := d2
          have d3 : ((wSk (wN h) (wB h) ((wSk (wN h) (wB h) (p)) + 1)) : Int) ≤ -(fNr (wN h) (wB h) (wSk (wN h) (wB h) ((wSk (wN h) (wB h) (p)) + 1))) - 1 := d3
          have d4 : -(fNr (wN h) (wB h) (wSk (wN h) (wB h) ((wSk (wN h) (wB h) (p)) + 1))) - 1 ≤ (wN h : Int) := d4
          rw [d2] at er
          refine ⟨rIT1m_9, List.mem_of_getElem? (i := 9) rfl, pEnd [ρ 0, ρ 1, ρ 2, ρ 3, ρ 4, ρ 5, ρ 6, ρ 7, ρ 8, ρ 9, ρ 10, ρ 11, ρ 12, ρ 13, ρ 14, ρ 15, ρ 16, ρ 17, ρ 18, ρ 19, ((wSk (wN h) (wB h) ((wSk (wN h) (wB h) (p)) + 1)) : Int), (fNr (wN h) (wB h) (wSk (wN h) (wB h) ((wSk (wN h) (wB h) (p)) + 1)))] rfl ?_ ?_ ?_ ?_⟩
          · intro j hj
            match j, hj with
            | 0, _ => exact q0.symm
            | 1, _ => exact q1.symm
            | 2, _ => exact q2.symm
            | 3, _ => exact q3.symm
            | 4, _ => exact q4.symm
            | 5, _ => exact q5.symm
            | 6, _ => exact q6.symm
            | 7, _ => exact q7.symm
            | 8, _ => exact q8.symm
            | 9, _ => exact q9.symm
            | 10, _ => exact q10.symm
            | 11, _ => exact q11.symm
            | 12, _ => exact q12.symm
            | 13, _ => exact q13.symm
            | 14, _ => exact q14.symm
            | 15, _ => exact q15.symm
            | 16, _ => exact q16.symm
            | 17, _ => exact q17.symm
            | 18, _ => exact q18.symm
            | 19, _ => exact q19.symm
            | k + 20, hj => exact absurd hj (by show ¬ (k + 20 < 20); omega)
          · intro k b hk
            match k, hk with
            | 0, hk => cases hk; exact (show (0 : Int) ≤ ((wSk (wN h) (wB h) ((wSk (wN h) (wB h) (p)) + 1)) : Int) ∧ ((wSk (wN h) (wB h) ((wSk (wN h) (wB h) (p)) + 1)) : Int) ≤ (240 : Int) by omega)
            | 1, hk => cases hk; exact (show ((-241) : Int) ≤ (fNr (wN h) (wB h) (wSk (wN h) (wB h) ((wSk (wN h) (wB h) (p)) + 1))) ∧ (fNr (wN h) (wB h) (wSk (wN h) (wB h) ((wSk (wN h) (wB h) (p)) + 1))) ≤ ((-1) : Int) by omega)
            | k + 2, hk => cases hk
          · exact pAll1 (show (0 + (1 * ρ 3 + ((-1) * ρ 18 + 0)) : Int) ≤ 0 by omega) (pAll1 (show (0 + ((-1) * ρ 2 + (1 * ρ 18 + 0)) : Int) ≤ 0 by omega) (pAll1 (show (1 + ((-1) * ρ 2 + (1 * ρ 18 + 0)) : Int) ≤ 0 by omega) (pAll1 (show (1 + ((-1) * ρ 19 + 0) : Int) ≤ 0 by omega) (pAll1 (show ((-100) + (1 * ρ 19 + 0) : Int) ≤ 0 by omega) (pAll1 (show (100 + ((-1) * ρ 19 + 0) : Int) ≤ 0 by omega) (pAll1 (show (0 + (1 * ρ 6 + 0) : Int) ≤ 0 by omega) (pAll1 (show (0 + ((-1) * ρ 6 + 0) : Int) ≤ 0 by omega) (pAll1 (show (1 + (1 * ρ 18 + ((-1) * ((wSk (wN h) (wB h) ((wSk (wN h) (wB h) (p)) + 1)) : Int) + 0)) : Int) ≤ 0 by omega) (pAll1 (show (0 + ((-1) * ρ 2 + (1 * ((wSk (wN h) (wB h) ((wSk (wN h) (wB h) (p)) + 1)) : Int) + 0)) : Int) ≤ 0 by omega) (pAll1 (show (0 + (1 * ρ 17 + ((-1) * (fNr (wN h) (wB h) (wSk (wN h) (wB h) ((wSk (wN h) (wB h) (p)) + 1))) + 0)) : Int) ≤ 0 by omega) (pAll1 (show (0 + ((-1) * ρ 17 + (1 * (fNr (wN h) (wB h) (wSk (wN h) (wB h) ((wSk (wN h) (wB h) (p)) + 1))) + 0)) : Int) ≤ 0 by omega) (pAll1 (show (1 + (1 * ((wSk (wN h) (wB h) ((wSk (wN h) (wB h) (p)) + 1)) : Int) + (1 * (fNr (wN h) (wB h) (wSk (wN h) (wB h) ((wSk (wN h) (wB h) (p)) + 1))) + 0)) : Int) ≤ 0 by omega) (pAll1 (show ((-1) + ((-1) * ρ 2 + ((-1) * (fNr (wN h) (wB h) (wSk (wN h) (wB h) ((wSk (wN h) (wB h) (p)) + 1))) + 0)) : Int) ≤ 0 by omega) (pAll0))))))))))))))
          · exact pAll1 (pgS ho hh ((wSk (wN h) (wB h) (p)) + 1) (by omega) (show (1 + (1 * ρ 18 + 0) : Int) = _ by omega) (show (0 + (1 * ((wSk (wN h) (wB h) ((wSk (wN h) (wB h) (p)) + 1)) : Int) + 0) : Int) = _ by omega)) (pAll1 (pgF hf 542 (by decide) (by decide) ((wSk (wN h) (wB h) ((wSk (wN h) (wB h) (p)) + 1))) (by omega) (show (0 + (1 * ((wSk (wN h) (wB h) ((wSk (wN h) (wB h) (p)) + 1)) : Int) + 0) : Int) = _ by omega) (show (0 + (1 * (fNr (wN h) (wB h) (wSk (wN h) (wB h) ((wSk (wN h) (wB h) (p)) + 1))) + 0) : Int) = _ by rw [fA_NR d0 hn]; omega)) (pAll0))
        · have d1 : (fNr (wN h) (wB h) (wSk (wN h) (wB h) ((wSk (wN h) (wB h) (p)) + 1))) = (e : Int) := d1
          have d2 : (wSk (wN h) (wB h) ((wSk (wN h) (wB h) (p)) + 1)) < e := d2
          have d4 : 0 ≤ (fNv (wN h) (wB h) (wSk (wN h) (wB h) ((wSk (wN h) (wB h) (p)) + 1))) := d4
          have d5 : (fNv (wN h) (wB h) (wSk (wN h) (wB h) ((wSk (wN h) (wB h) (p)) + 1))) ≤ 99 := d5
          obtain ⟨w, ew⟩ : ∃ w : Nat, (fNv (wN h) (wB h) (wSk (wN h) (wB h) ((wSk (wN h) (wB h) (p)) + 1))) = (w : Int) := ⟨(fNv (wN h) (wB h) (wSk (wN h) (wB h) ((wSk (wN h) (wB h) (p)) + 1))).toNat, by omega⟩
          have l1 : fLo 1 1 = 0 := rfl
          have l2 : fHi 1 1 = 9 := rfl
          rw [l1, l2] at d6
          rcases d6 with ⟨d7, d8⟩ | ⟨d7, d8, d9, d10, d11⟩
          · rw [d8] at er
            have d7 : (fNv (wN h) (wB h) (wSk (wN h) (wB h) ((wSk (wN h) (wB h) (p)) + 1))) < 0 ∨ 9 < (fNv (wN h) (wB h) (wSk (wN h) (wB h) ((wSk (wN h) (wB h) (p)) + 1))) := d7
            rcases d7 with d7 | d7
            · omega
            · refine ⟨rIT1m_11, List.mem_of_getElem? (i := 11) rfl, pEnd [ρ 0, ρ 1, ρ 2, ρ 3, ρ 4, ρ 5, ρ 6, ρ 7, ρ 8, ρ 9, ρ 10, ρ 11, ρ 12, ρ 13, ρ 14, ρ 15, ρ 16, ρ 17, ρ 18, ρ 19, ((wSk (wN h) (wB h) ((wSk (wN h) (wB h) (p)) + 1)) : Int), (e : Int), (w : Int)] rfl ?_ ?_ ?_ ?_⟩
              · intro j hj
                match j, hj with
                | 0, _ => exact q0.symm
                | 1, _ => exact q1.symm
                | 2, _ => exact q2.symm
                | 3, _ => exact q3.symm
                | 4, _ => exact q4.symm
                | 5, _ => exact q5.symm
                | 6, _ => exact q6.symm
                | 7, _ => exact q7.symm
                | 8, _ => exact q8.symm
                | 9, _ => exact q9.symm
                | 10, _ => exact q10.symm
                | 11, _ => exact q11.symm
                | 12, _ => exact q12.symm
                | 13, _ => exact q13.symm
                | 14, _ => exact q14.symm
                | 15, _ => exact q15.symm
                | 16, _ => exact q16.symm
                | 17, _ => exact q17.symm
                | 18, _ => exact q18.symm
                | 19, _ => exact q19.symm
                | k + 20, hj => exact absurd hj (by show ¬ (k + 20 < 20); omega)
              · intro k b hk
                match k, hk with
                | 0, hk => cases hk; exact (show (0 : Int) ≤ ((wSk (wN h) (wB h) ((wSk (wN h) (wB h) (p)) + 1)) : Int) ∧ ((wSk (wN h) (wB h) ((wSk (wN h) (wB h) (p)) + 1)) : Int) ≤ (240 : Int) by omega)
                | 1, hk => cases hk; exact (show (0 : Int) ≤ (e : Int) ∧ (e : Int) ≤ (240 : Int) by omega)
                | 2, hk => cases hk; exact (show (0 : Int) ≤ (w : Int) ∧ (w : Int) ≤ (99 : Int) by omega)
                | k + 3, hk => cases hk
              · exact pAll1 (show (0 + (1 * ρ 3 + ((-1) * ρ 18 + 0)) : Int) ≤ 0 by omega) (pAll1 (show (0 + ((-1) * ρ 2 + (1 * ρ 18 + 0)) : Int) ≤ 0 by omega) (pAll1 (show (1 + ((-1) * ρ 2 + (1 * ρ 18 + 0)) : Int) ≤ 0 by omega) (pAll1 (show (1 + ((-1) * ρ 19 + 0) : Int) ≤ 0 by omega) (pAll1 (show ((-100) + (1 * ρ 19 + 0) : Int) ≤ 0 by omega) (pAll1 (show (100 + ((-1) * ρ 19 + 0) : Int) ≤ 0 by omega) (pAll1 (show (0 + (1 * ρ 6 + 0) : Int) ≤ 0 by omega) (pAll1 (show (0 + ((-1) * ρ 6 + 0) : Int) ≤ 0 by omega) (pAll1 (show (1 + (1 * ρ 18 + ((-1) * ((wSk (wN h) (wB h) ((wSk (wN h) (wB h) (p)) + 1)) : Int) + 0)) : Int) ≤ 0 by omega) (pAll1 (show (0 + ((-1) * ρ 2 + (1 * ((wSk (wN h) (wB h) ((wSk (wN h) (wB h) (p)) + 1)) : Int) + 0)) : Int) ≤ 0 by omega) (pAll1 (show (1 + (1 * ((wSk (wN h) (wB h) ((wSk (wN h) (wB h) (p)) + 1)) : Int) + ((-1) * (e : Int) + 0)) : Int) ≤ 0 by omega) (pAll1 (show (0 + ((-1) * ρ 2 + (1 * (e : Int) + 0)) : Int) ≤ 0 by omega) (pAll1 (show (10 + ((-1) * (w : Int) + 0) : Int) ≤ 0 by omega) (pAll1 (show (0 + (1 * ρ 17 + (1 * (e : Int) + 0)) : Int) ≤ 0 by omega) (pAll1 (show (0 + ((-1) * ρ 17 + ((-1) * (e : Int) + 0)) : Int) ≤ 0 by omega) (pAll0)))))))))))))))
              · exact pAll1 (pgS ho hh ((wSk (wN h) (wB h) (p)) + 1) (by omega) (show (1 + (1 * ρ 18 + 0) : Int) = _ by omega) (show (0 + (1 * ((wSk (wN h) (wB h) ((wSk (wN h) (wB h) (p)) + 1)) : Int) + 0) : Int) = _ by omega)) (pAll1 (pgF hf 542 (by decide) (by decide) ((wSk (wN h) (wB h) ((wSk (wN h) (wB h) (p)) + 1))) (by omega) (show (0 + (1 * ((wSk (wN h) (wB h) ((wSk (wN h) (wB h) (p)) + 1)) : Int) + 0) : Int) = _ by omega) (show (0 + (1 * (e : Int) + 0) : Int) = _ by rw [fA_NR d0 hn]; omega)) (pAll1 (pgF hf 543 (by decide) (by decide) ((wSk (wN h) (wB h) ((wSk (wN h) (wB h) (p)) + 1))) (by omega) (show (0 + (1 * ((wSk (wN h) (wB h) ((wSk (wN h) (wB h) (p)) + 1)) : Int) + 0) : Int) = _ by omega) (show (0 + (1 * (w : Int) + 0) : Int) = _ by rw [fA_NV d4 d5]; omega)) (pAll0)))
          · have d7 : 0 ≤ (fNv (wN h) (wB h) (wSk (wN h) (wB h) ((wSk (wN h) (wB h) (p)) + 1))) := d7
            have d8 : (fNv (wN h) (wB h) (wSk (wN h) (wB h) ((wSk (wN h) (wB h) (p)) + 1))) ≤ 9 := d8
            have d9 : g + 2 < 16 := d9
            have d10 : (fI (wN h) (wB h) 1 (g) (p)) = (fI (wN h) (wB h) 1 (g + 2) (e)) := d10
            rw [d10] at er
            have x0 : (fV (wN h) (wB h) 1 0 (g) (p) (v0 : Int)) = (fV (wN h) (wB h) 1 0 (g + 2) (e) (v0 : Int)) := by
              have y := d11 0 (v0 : Int)
              rw [if_neg (by decide)] at y
              exact y
            rw [x0] at ef0
            have x1 : (fV (wN h) (wB h) 1 1 (g) (p) (v1 : Int)) = (fV (wN h) (wB h) 1 1 (g + 2) (e) (w : Int)) := by
              have y := d11 1 (v1 : Int)
              rw [if_pos rfl] at y
              have y : (fV (wN h) (wB h) 1 1 (g) (p) (v1 : Int)) = (fV (wN h) (wB h) 1 1 (g + 2) (e) (fNv (wN h) (wB h) (wSk (wN h) (wB h) ((wSk (wN h) (wB h) (p)) + 1)))) := y
              rw [ew] at y
              exact y
            rw [x1] at ef1
            have x2 : (fV (wN h) (wB h) 1 2 (g) (p) (v2 : Int)) = (fV (wN h) (wB h) 1 2 (g + 2) (e) (v2 : Int)) := by
              have y := d11 2 (v2 : Int)
              rw [if_neg (by decide)] at y
              exact y
            rw [x2] at ef2
            have x3 : (fV (wN h) (wB h) 1 3 (g) (p) (v3 : Int)) = (fV (wN h) (wB h) 1 3 (g + 2) (e) (v3 : Int)) := by
              have y := d11 3 (v3 : Int)
              rw [if_neg (by decide)] at y
              exact y
            rw [x3] at ef3
            refine ⟨rIT1m_10, List.mem_of_getElem? (i := 10) rfl, pEnd [ρ 0, ρ 1, ρ 2, ρ 3, ρ 4, ρ 5, ρ 6, ρ 7, ρ 8, ρ 9, ρ 10, ρ 11, ρ 12, ρ 13, ρ 14, ρ 15, ρ 16, ρ 17, ρ 18, ρ 19, ((wSk (wN h) (wB h) ((wSk (wN h) (wB h) (p)) + 1)) : Int), (e : Int), (w : Int)] rfl ?_ ?_ ?_ ?_⟩
            · intro j hj
              match j, hj with
              | 0, _ => exact q0.symm
              | 1, _ => exact q1.symm
              | 2, _ => exact q2.symm
              | 3, _ => exact q3.symm
              | 4, _ => exact q4.symm
              | 5, _ => exact q5.symm
              | 6, _ => exact q6.symm
              | 7, _ => exact q7.symm
              | 8, _ => exact q8.symm
              | 9, _ => exact q9.symm
              | 10, _ => exact q10.symm
              | 11, _ => exact q11.symm
              | 12, _ => exact q12.symm
              | 13, _ => exact q13.symm
              | 14, _ => exact q14.symm
              | 15, _ => exact q15.symm
              | 16, _ => exact q16.symm
              | 17, _ => exact q17.symm
              | 18, _ => exact q18.symm
              | 19, _ => exact q19.symm
              | k + 20, hj => exact absurd hj (by show ¬ (k + 20 < 20); omega)
            · intro k b hk
              match k, hk with
              | 0, hk => cases hk; exact (show (0 : Int) ≤ ((wSk (wN h) (wB h) ((wSk (wN h) (wB h) (p)) + 1)) : Int) ∧ ((wSk (wN h) (wB h) ((wSk (wN h) (wB h) (p)) + 1)) : Int) ≤ (240 : Int) by omega)
              | 1, hk => cases hk; exact (show (0 : Int) ≤ (e : Int) ∧ (e : Int) ≤ (240 : Int) by omega)
              | 2, hk => cases hk; exact (show (0 : Int) ≤ (w : Int) ∧ (w : Int) ≤ (99 : Int) by omega)
              | k + 3, hk => cases hk
            · exact pAll1 (show (0 + (1 * ρ 3 + ((-1) * ρ 18 + 0)) : Int) ≤ 0 by omega) (pAll1 (show (0 + ((-1) * ρ 2 + (1 * ρ 18 + 0)) : Int) ≤ 0 by omega) (pAll1 (show (1 + ((-1) * ρ 2 + (1 * ρ 18 + 0)) : Int) ≤ 0 by omega) (pAll1 (show (1 + ((-1) * ρ 19 + 0) : Int) ≤ 0 by omega) (pAll1 (show ((-100) + (1 * ρ 19 + 0) : Int) ≤ 0 by omega) (pAll1 (show (100 + ((-1) * ρ 19 + 0) : Int) ≤ 0 by omega) (pAll1 (show (0 + (1 * ρ 6 + 0) : Int) ≤ 0 by omega) (pAll1 (show (0 + ((-1) * ρ 6 + 0) : Int) ≤ 0 by omega) (pAll1 (show (1 + (1 * ρ 18 + ((-1) * ((wSk (wN h) (wB h) ((wSk (wN h) (wB h) (p)) + 1)) : Int) + 0)) : Int) ≤ 0 by omega) (pAll1 (show (0 + ((-1) * ρ 2 + (1 * ((wSk (wN h) (wB h) ((wSk (wN h) (wB h) (p)) + 1)) : Int) + 0)) : Int) ≤ 0 by omega) (pAll1 (show (1 + (1 * ((wSk (wN h) (wB h) ((wSk (wN h) (wB h) (p)) + 1)) : Int) + ((-1) * (e : Int) + 0)) : Int) ≤ 0 by omega) (pAll1 (show (0 + ((-1) * ρ 2 + (1 * (e : Int) + 0)) : Int) ≤ 0 by omega) (pAll1 (show (0 + ((-1) * (w : Int) + 0) : Int) ≤ 0 by omega) (pAll1 (show ((-9) + (1 * (w : Int) + 0) : Int) ≤ 0 by omega) (pAll0))))))))))))))
            · exact pAll1 (pgS ho hh ((wSk (wN h) (wB h) (p)) + 1) (by omega) (show (1 + (1 * ρ 18 + 0) : Int) = _ by omega) (show (0 + (1 * ((wSk (wN h) (wB h) ((wSk (wN h) (wB h) (p)) + 1)) : Int) + 0) : Int) = _ by omega)) (pAll1 (pgF hf 542 (by decide) (by decide) ((wSk (wN h) (wB h) ((wSk (wN h) (wB h) (p)) + 1))) (by omega) (show (0 + (1 * ((wSk (wN h) (wB h) ((wSk (wN h) (wB h) (p)) + 1)) : Int) + 0) : Int) = _ by omega) (show (0 + (1 * (e : Int) + 0) : Int) = _ by rw [fA_NR d0 hn]; omega)) (pAll1 (pgF hf 543 (by decide) (by decide) ((wSk (wN h) (wB h) ((wSk (wN h) (wB h) (p)) + 1))) (by omega) (show (0 + (1 * ((wSk (wN h) (wB h) ((wSk (wN h) (wB h) (p)) + 1)) : Int) + 0) : Int) = _ by omega) (show (0 + (1 * (w : Int) + 0) : Int) = _ by rw [fA_NV d4 d5]; omega)) (pAll1 (pgF hf 531 (by decide) (by decide) (16 * e + (g + 2)) (by omega) (show (2 + (1 * ρ 4 + (16 * (e : Int) + 0)) : Int) = _ by omega) (show (0 + (1 * ρ 17 + 0) : Int) = _ by rw [fA_IT1 (g := g + 2) d9 d3 hn]; omega)) (pAll1 (pgF hf 563 (by decide) (by decide) (1600 * e + 100 * (g + 2) + v0) (by omega) (show (200 + (100 * ρ 4 + (1 * ρ 9 + (1600 * (e : Int) + 0))) : Int) = _ by omega) (show (0 + (1 * ρ 13 + 0) : Int) = _ by rw [fA_I (s := 1) (j := 0) (r := 563) (g := g + 2) (v := v0) (Or.inr ⟨rfl, rfl, by decide⟩) d9 d3 (by omega)]; omega)) (pAll1 (pgF hf 564 (by decide) (by decide) (1600 * e + 100 * (g + 2) + w) (by omega) (show (200 + (100 * ρ 4 + (1600 * (e : Int) + (1 * (w : Int) + 0))) : Int) = _ by omega) (show (0 + (1 * ρ 14 + 0) : Int) = _ by rw [fA_I (s := 1) (j := 1) (r := 564) (g := g + 2) (v := w) (Or.inr ⟨rfl, rfl, by decide⟩) d9 d3 (by omega)]; omega)) (pAll1 (pgF hf 565 (by decide) (by decide) (1600 * e + 100 * (g + 2) + v2) (by omega) (show (200 + (100 * ρ 4 + (1 * ρ 11 + (1600 * (e : Int) + 0))) : Int) = _ by omega) (show (0 + (1 * ρ 15 + 0) : Int) = _ by rw [fA_I (s := 1) (j := 2) (r := 565) (g := g + 2) (v := v2) (Or.inr ⟨rfl, rfl, by decide⟩) d9 d3 (by omega)]; omega)) (pAll1 (pgF hf 566 (by decide) (by decide) (1600 * e + 100 * (g + 2) + v3) (by omega) (show (200 + (100 * ρ 4 + (1 * ρ 12 + (1600 * (e : Int) + 0))) : Int) = _ by omega) (show (0 + (1 * ρ 16 + 0) : Int) = _ by rw [fA_I (s := 1) (j := 3) (r := 566) (g := g + 2) (v := v3) (Or.inr ⟨rfl, rfl, by decide⟩) d9 d3 (by omega)]; omega)) (pAll0))))))))
    · rcases hc with ⟨c8, c9⟩ | ⟨c8, c9, d0, d⟩
      · rw [c9] at er
        unfold wFl at er
        rw [c8] at hb2
        refine ⟨rIT1m_12, List.mem_of_getElem? (i := 12) rfl, pEnd [ρ 0, ρ 1, ρ 2, ρ 3, ρ 4, ρ 5, ρ 6, ρ 7, ρ 8, ρ 9, ρ 10, ρ 11, ρ 12, ρ 13, ρ 14, ρ 15, ρ 16, ρ 17, ρ 18, ρ 19] rfl ?_ ?_ ?_ ?_⟩
        · exact hL
        · intro k b hk
          cases hk
        · exact pAll1 (show (0 + (1 * ρ 3 + ((-1) * ρ 18 + 0)) : Int) ≤ 0 by omega) (pAll1 (show (0 + ((-1) * ρ 2 + (1 * ρ 18 + 0)) : Int) ≤ 0 by omega) (pAll1 (show (1 + ((-1) * ρ 2 + (1 * ρ 18 + 0)) : Int) ≤ 0 by omega) (pAll1 (show (1 + ((-1) * ρ 19 + 0) : Int) ≤ 0 by omega) (pAll1 (show ((-101) + (1 * ρ 19 + 0) : Int) ≤ 0 by omega) (pAll1 (show (101 + ((-1) * ρ 19 + 0) : Int) ≤ 0 by omega) (pAll1 (show ((-1) + (1 * ρ 7 + 0) : Int) ≤ 0 by omega) (pAll1 (show (1 + ((-1) * ρ 7 + 0) : Int) ≤ 0 by omega) (pAll1 (show (1 + (1 * ρ 17 + (1 * ρ 18 + 0)) : Int) ≤ 0 by omega) (pAll1 (show ((-1) + ((-1) * ρ 17 + ((-1) * ρ 18 + 0)) : Int) ≤ 0 by omega) (pAll1 (show (1 + (1 * ρ 3 + (1 * ρ 17 + 0)) : Int) ≤ 0 by omega) (pAll1 (show ((-1) + ((-1) * ρ 3 + ((-1) * ρ 17 + 0)) : Int) ≤ 0 by omega) (pAll0))))))))))))
        · exact pAll0
      · rw [c8] at hb2
        have c9 : (wSk (wN h) (wB h) (p)) + 1 ≤ (wSk (wN h) (wB h) ((wSk (wN h) (wB h) (p)) + 1)) := c9
        have d0 : (wSk (wN h) (wB h) ((wSk (wN h) (wB h) (p)) + 1)) ≤ wN h := d0
        rcases d with ⟨d1, d2, d3, d4⟩ | ⟨e, d1, d2, d3, d4, d5, d6⟩
        · have d1 : (fNr (wN h) (wB h) (wSk (wN h) (wB h) ((wSk (wN h) (wB h) (p)) + 1))) < 0 := d1
          have d2 : (fI (wN h) (wB h) 1 (g) (p)) = (fNr (wN h) (wB h) (wSk (wN h) (wB h) ((wSk (wN h) (wB h) (p)) + 1))) := d2
          have d3 : ((wSk (wN h) (wB h) ((wSk (wN h) (wB h) (p)) + 1)) : Int) ≤ -(fNr (wN h) (wB h) (wSk (wN h) (wB h) ((wSk (wN h) (wB h) (p)) + 1))) - 1 := d3
          have d4 : -(fNr (wN h) (wB h) (wSk (wN h) (wB h) ((wSk (wN h) (wB h) (p)) + 1))) - 1 ≤ (wN h : Int) := d4
          rw [d2] at er
          refine ⟨rIT1m_13, List.mem_of_getElem? (i := 13) rfl, pEnd [ρ 0, ρ 1, ρ 2, ρ 3, ρ 4, ρ 5, ρ 6, ρ 7, ρ 8, ρ 9, ρ 10, ρ 11, ρ 12, ρ 13, ρ 14, ρ 15, ρ 16, ρ 17, ρ 18, ρ 19, ((wSk (wN h) (wB h) ((wSk (wN h) (wB h) (p)) + 1)) : Int), (fNr (wN h) (wB h) (wSk (wN h) (wB h) ((wSk (wN h) (wB h) (p)) + 1)))] rfl ?_ ?_ ?_ ?_⟩
          · intro j hj
            match j, hj with
            | 0, _ => exact q0.symm
            | 1, _ => exact q1.symm
            | 2, _ => exact q2.symm
            | 3, _ => exact q3.symm
            | 4, _ => exact q4.symm
            | 5, _ => exact q5.symm
            | 6, _ => exact q6.symm
            | 7, _ => exact q7.symm
            | 8, _ => exact q8.symm
            | 9, _ => exact q9.symm
            | 10, _ => exact q10.symm
            | 11, _ => exact q11.symm
            | 12, _ => exact q12.symm
            | 13, _ => exact q13.symm
            | 14, _ => exact q14.symm
            | 15, _ => exact q15.symm
            | 16, _ => exact q16.symm
            | 17, _ => exact q17.symm
            | 18, _ => exact q18.symm
            | 19, _ => exact q19.symm
            | k + 20, hj => exact absurd hj (by show ¬ (k + 20 < 20); omega)
          · intro k b hk
            match k, hk with
            | 0, hk => cases hk; exact (show (0 : Int) ≤ ((wSk (wN h) (wB h) ((wSk (wN h) (wB h) (p)) + 1)) : Int) ∧ ((wSk (wN h) (wB h) ((wSk (wN h) (wB h) (p)) + 1)) : Int) ≤ (240 : Int) by omega)
            | 1, hk => cases hk; exact (show ((-241) : Int) ≤ (fNr (wN h) (wB h) (wSk (wN h) (wB h) ((wSk (wN h) (wB h) (p)) + 1))) ∧ (fNr (wN h) (wB h) (wSk (wN h) (wB h) ((wSk (wN h) (wB h) (p)) + 1))) ≤ ((-1) : Int) by omega)
            | k + 2, hk => cases hk
          · exact pAll1 (show (0 + (1 * ρ 3 + ((-1) * ρ 18 + 0)) : Int) ≤ 0 by omega) (pAll1 (show (0 + ((-1) * ρ 2 + (1 * ρ 18 + 0)) : Int) ≤ 0 by omega) (pAll1 (show (1 + ((-1) * ρ 2 + (1 * ρ 18 + 0)) : Int) ≤ 0 by omega) (pAll1 (show (1 + ((-1) * ρ 19 + 0) : Int) ≤ 0 by omega) (pAll1 (show ((-101) + (1 * ρ 19 + 0) : Int) ≤ 0 by omega) (pAll1 (show (101 + ((-1) * ρ 19 + 0) : Int) ≤ 0 by omega) (pAll1 (show (0 + (1 * ρ 7 + 0) : Int) ≤ 0 by omega) (pAll1 (show (0 + ((-1) * ρ 7 + 0) : Int) ≤ 0 by omega) (pAll1 (show (1 + (1 * ρ 18 + ((-1) * ((wSk (wN h) (wB h) ((wSk (wN h) (wB h) (p)) + 1)) : Int) + 0)) : Int) ≤ 0 by omega) (pAll1 (show (0 + ((-1) * ρ 2 + (1 * ((wSk (wN h) (wB h) ((wSk (wN h) (wB h) (p)) + 1)) : Int) + 0)) : Int) ≤ 0 by omega) (pAll1 (show (0 + (1 * ρ 17 + ((-1) * (fNr (wN h) (wB h) (wSk (wN h) (wB h) ((wSk (wN h) (wB h) (p)) + 1))) + 0)) : Int) ≤ 0 by omega) (pAll1 (show (0 + ((-1) * ρ 17 + (1 * (fNr (wN h) (wB h) (wSk (wN h) (wB h) ((wSk (wN h) (wB h) (p)) + 1))) + 0)) : Int) ≤ 0 by omega) (pAll1 (show (1 + (1 * ((wSk (wN h) (wB h) ((wSk (wN h) (wB h) (p)) + 1)) : Int) + (1 * (fNr (wN h) (wB h) (wSk (wN h) (wB h) ((wSk (wN h) (wB h) (p)) + 1))) + 0)) : Int) ≤ 0 by omega) (pAll1 (show ((-1) + ((-1) * ρ 2 + ((-1) * (fNr (wN h) (wB h) (wSk (wN h) (wB h) ((wSk (wN h) (wB h) (p)) + 1))) + 0)) : Int) ≤ 0 by omega) (pAll0))))))))))))))
          · exact pAll1 (pgS ho hh ((wSk (wN h) (wB h) (p)) + 1) (by omega) (show (1 + (1 * ρ 18 + 0) : Int) = _ by omega) (show (0 + (1 * ((wSk (wN h) (wB h) ((wSk (wN h) (wB h) (p)) + 1)) : Int) + 0) : Int) = _ by omega)) (pAll1 (pgF hf 542 (by decide) (by decide) ((wSk (wN h) (wB h) ((wSk (wN h) (wB h) (p)) + 1))) (by omega) (show (0 + (1 * ((wSk (wN h) (wB h) ((wSk (wN h) (wB h) (p)) + 1)) : Int) + 0) : Int) = _ by omega) (show (0 + (1 * (fNr (wN h) (wB h) (wSk (wN h) (wB h) ((wSk (wN h) (wB h) (p)) + 1))) + 0) : Int) = _ by rw [fA_NR d0 hn]; omega)) (pAll0))
        · have d1 : (fNr (wN h) (wB h) (wSk (wN h) (wB h) ((wSk (wN h) (wB h) (p)) + 1))) = (e : Int) := d1
          have d2 : (wSk (wN h) (wB h) ((wSk (wN h) (wB h) (p)) + 1)) < e := d2
          have d4 : 0 ≤ (fNv (wN h) (wB h) (wSk (wN h) (wB h) ((wSk (wN h) (wB h) (p)) + 1))) := d4
          have d5 : (fNv (wN h) (wB h) (wSk (wN h) (wB h) ((wSk (wN h) (wB h) (p)) + 1))) ≤ 99 := d5
          obtain ⟨w, ew⟩ : ∃ w : Nat, (fNv (wN h) (wB h) (wSk (wN h) (wB h) ((wSk (wN h) (wB h) (p)) + 1))) = (w : Int) := ⟨(fNv (wN h) (wB h) (wSk (wN h) (wB h) ((wSk (wN h) (wB h) (p)) + 1))).toNat, by omega⟩
          have l1 : fLo 1 2 = 0 := rfl
          have l2 : fHi 1 2 = 9 := rfl
          rw [l1, l2] at d6
          rcases d6 with ⟨d7, d8⟩ | ⟨d7, d8, d9, d10, d11⟩
          · rw [d8] at er
            have d7 : (fNv (wN h) (wB h) (wSk (wN h) (wB h) ((wSk (wN h) (wB h) (p)) + 1))) < 0 ∨ 9 < (fNv (wN h) (wB h) (wSk (wN h) (wB h) ((wSk (wN h) (wB h) (p)) + 1))) := d7
            rcases d7 with d7 | d7
            · omega
            · refine ⟨rIT1m_15, List.mem_of_getElem? (i := 15) rfl, pEnd [ρ 0, ρ 1, ρ 2, ρ 3, ρ 4, ρ 5, ρ 6, ρ 7, ρ 8, ρ 9, ρ 10, ρ 11, ρ 12, ρ 13, ρ 14, ρ 15, ρ 16, ρ 17, ρ 18, ρ 19, ((wSk (wN h) (wB h) ((wSk (wN h) (wB h) (p)) + 1)) : Int), (e : Int), (w : Int)] rfl ?_ ?_ ?_ ?_⟩
              · intro j hj
                match j, hj with
                | 0, _ => exact q0.symm
                | 1, _ => exact q1.symm
                | 2, _ => exact q2.symm
                | 3, _ => exact q3.symm
                | 4, _ => exact q4.symm
                | 5, _ => exact q5.symm
                | 6, _ => exact q6.symm
                | 7, _ => exact q7.symm
                | 8, _ => exact q8.symm
                | 9, _ => exact q9.symm
                | 10, _ => exact q10.symm
                | 11, _ => exact q11.symm
                | 12, _ => exact q12.symm
                | 13, _ => exact q13.symm
                | 14, _ => exact q14.symm
                | 15, _ => exact q15.symm
                | 16, _ => exact q16.symm
                | 17, _ => exact q17.symm
                | 18, _ => exact q18.symm
                | 19, _ => exact q19.symm
                | k + 20, hj => exact absurd hj (by show ¬ (k + 20 < 20); omega)
              · intro k b hk
                match k, hk with
                | 0, hk => cases hk; exact (show (0 : Int) ≤ ((wSk (wN h) (wB h) ((wSk (wN h) (wB h) (p)) + 1)) : Int) ∧ ((wSk (wN h) (wB h) ((wSk (wN h) (wB h) (p)) + 1)) : Int) ≤ (240 : Int) by omega)
                | 1, hk => cases hk; exact (show (0 : Int) ≤ (e : Int) ∧ (e : Int) ≤ (240 : Int) by omega)
                | 2, hk => cases hk; exact (show (0 : Int) ≤ (w : Int) ∧ (w : Int) ≤ (99 : Int) by omega)
                | k + 3, hk => cases hk
              · exact pAll1 (show (0 + (1 * ρ 3 + ((-1) * ρ 18 + 0)) : Int) ≤ 0 by omega) (pAll1 (show (0 + ((-1) * ρ 2 + (1 * ρ 18 + 0)) : Int) ≤ 0 by omega) (pAll1 (show (1 + ((-1) * ρ 2 + (1 * ρ 18 + 0)) : Int) ≤ 0 by omega) (pAll1 (show (1 + ((-1) * ρ 19 + 0) : Int) ≤ 0 by omega) (pAll1 (show ((-101) + (1 * ρ 19 + 0) : Int) ≤ 0 by omega) (pAll1 (show (101 + ((-1) * ρ 19 + 0) : Int) ≤ 0 by omega) (pAll1 (show (0 + (1 * ρ 7 + 0) : Int) ≤ 0 by omega) (pAll1 (show (0 + ((-1) * ρ 7 + 0) : Int) ≤ 0 by omega) (pAll1 (show (1 + (1 * ρ 18 + ((-1) * ((wSk (wN h) (wB h) ((wSk (wN h) (wB h) (p)) + 1)) : Int) + 0)) : Int) ≤ 0 by omega) (pAll1 (show (0 + ((-1) * ρ 2 + (1 * ((wSk (wN h) (wB h) ((wSk (wN h) (wB h) (p)) + 1)) : Int) + 0)) : Int) ≤ 0 by omega) (pAll1 (show (1 + (1 * ((wSk (wN h) (wB h) ((wSk (wN h) (wB h) (p)) + 1)) : Int) + ((-1) * (e : Int) + 0)) : Int) ≤ 0 by omega) (pAll1 (show (0 + ((-1) * ρ 2 + (1 * (e : Int) + 0)) : Int) ≤ 0 by omega) (pAll1 (show (10 + ((-1) * (w : Int) + 0) : Int) ≤ 0 by omega) (pAll1 (show (0 + (1 * ρ 17 + (1 * (e : Int) + 0)) : Int) ≤ 0 by omega) (pAll1 (show (0 + ((-1) * ρ 17 + ((-1) * (e : Int) + 0)) : Int) ≤ 0 by omega) (pAll0)))))))))))))))
              · exact pAll1 (pgS ho hh ((wSk (wN h) (wB h) (p)) + 1) (by omega) (show (1 + (1 * ρ 18 + 0) : Int) = _ by omega) (show (0 + (1 * ((wSk (wN h) (wB h) ((wSk (wN h) (wB h) (p)) + 1)) : Int) + 0) : Int) = _ by omega)) (pAll1 (pgF hf 542 (by decide) (by decide) ((wSk (wN h) (wB h) ((wSk (wN h) (wB h) (p)) + 1))) (by omega) (show (0 + (1 * ((wSk (wN h) (wB h) ((wSk (wN h) (wB h) (p)) + 1)) : Int) + 0) : Int) = _ by omega) (show (0 + (1 * (e : Int) + 0) : Int) = _ by rw [fA_NR d0 hn]; omega)) (pAll1 (pgF hf 543 (by decide) (by decide) ((wSk (wN h) (wB h) ((wSk (wN h) (wB h) (p)) + 1))) (by omega) (show (0 + (1 * ((wSk (wN h) (wB h) ((wSk (wN h) (wB h) (p)) + 1)) : Int) + 0) : Int) = _ by omega) (show (0 + (1 * (w : Int) + 0) : Int) = _ by rw [fA_NV d4 d5]; omega)) (pAll0)))
          · have d7 : 0 ≤ (fNv (wN h) (wB h) (wSk (wN h) (wB h) ((wSk (wN h) (wB h) (p)) + 1))) := d7
            have d8 : (fNv (wN h) (wB h) (wSk (wN h) (wB h) ((wSk (wN h) (wB h) (p)) + 1))) ≤ 9 := d8
            have d9 : g + 4 < 16 := d9
            have d10 : (fI (wN h) (wB h) 1 (g) (p)) = (fI (wN h) (wB h) 1 (g + 4) (e)) := d10
            rw [d10] at er
            have x0 : (fV (wN h) (wB h) 1 0 (g) (p) (v0 : Int)) = (fV (wN h) (wB h) 1 0 (g + 4) (e) (v0 : Int)) := by
              have y := d11 0 (v0 : Int)
              rw [if_neg (by decide)] at y
              exact y
            rw [x0] at ef0
            have x1 : (fV (wN h) (wB h) 1 1 (g) (p) (v1 : Int)) = (fV (wN h) (wB h) 1 1 (g + 4) (e) (v1 : Int)) := by
              have y := d11 1 (v1 : Int)
              rw [if_neg (by decide)] at y
              exact y
            rw [x1] at ef1
            have x2 : (fV (wN h) (wB h) 1 2 (g) (p) (v2 : Int)) = (fV (wN h) (wB h) 1 2 (g + 4) (e) (w : Int)) := by
              have y := d11 2 (v2 : Int)
              rw [if_pos rfl] at y
              have y : (fV (wN h) (wB h) 1 2 (g) (p) (v2 : Int)) = (fV (wN h) (wB h) 1 2 (g + 4) (e) (fNv (wN h) (wB h) (wSk (wN h) (wB h) ((wSk (wN h) (wB h) (p)) + 1)))) := y
              rw [ew] at y
              exact y
            rw [x2] at ef2
            have x3 : (fV (wN h) (wB h) 1 3 (g) (p) (v3 : Int)) = (fV (wN h) (wB h) 1 3 (g + 4) (e) (v3 : Int)) := by
              have y := d11 3 (v3 : Int)
              rw [if_neg (by decide)] at y
              exact y
            rw [x3] at ef3
            refine ⟨rIT1m_14, List.mem_of_getElem? (i := 14) rfl, pEnd [ρ 0, ρ 1, ρ 2, ρ 3, ρ 4, ρ 5, ρ 6, ρ 7, ρ 8, ρ 9, ρ 10, ρ 11, ρ 12, ρ 13, ρ 14, ρ 15, ρ 16, ρ 17, ρ 18, ρ 19, ((wSk (wN h) (wB h) ((wSk (wN h) (wB h) (p)) + 1)) : Int), (e : Int), (w : Int)] rfl ?_ ?_ ?_ ?_⟩
            · intro j hj
              match j, hj with
              | 0, _ => exact q0.symm
              | 1, _ => exact q1.symm
              | 2, _ => exact q2.symm
              | 3, _ => exact q3.symm
              | 4, _ => exact q4.symm
              | 5, _ => exact q5.symm
              | 6, _ => exact q6.symm
              | 7, _ => exact q7.symm
              | 8, _ => exact q8.symm
              | 9, _ => exact q9.symm
              | 10, _ => exact q10.symm
              | 11, _ => exact q11.symm
              | 12, _ => exact q12.symm
              | 13, _ => exact q13.symm
              | 14, _ => exact q14.symm
              | 15, _ => exact q15.symm
              | 16, _ => exact q16.symm
              | 17, _ => exact q17.symm
              | 18, _ => exact q18.symm
              | 19, _ => exact q19.symm
              | k + 20, hj => exact absurd hj (by show ¬ (k + 20 < 20); omega)
            · intro k b hk
              match k, hk with
              | 0, hk => cases hk; exact (show (0 : Int) ≤ ((wSk (wN h) (wB h) ((wSk (wN h) (wB h) (p)) + 1)) : Int) ∧ ((wSk (wN h) (wB h) ((wSk (wN h) (wB h) (p)) + 1)) : Int) ≤ (240 : Int) by omega)
              | 1, hk => cases hk; exact (show (0 : Int) ≤ (e : Int) ∧ (e : Int) ≤ (240 : Int) by omega)
              | 2, hk => cases hk; exact (show (0 : Int) ≤ (w : Int) ∧ (w : Int) ≤ (99 : Int) by omega)
              | k + 3, hk => cases hk
            · exact pAll1 (show (0 + (1 * ρ 3 + ((-1) * ρ 18 + 0)) : Int) ≤ 0 by omega) (pAll1 (show (0 + ((-1) * ρ 2 + (1 * ρ 18 + 0)) : Int) ≤ 0 by omega) (pAll1 (show (1 + ((-1) * ρ 2 + (1 * ρ 18 + 0)) : Int) ≤ 0 by omega) (pAll1 (show (1 + ((-1) * ρ 19 + 0) : Int) ≤ 0 by omega) (pAll1 (show ((-101) + (1 * ρ 19 + 0) : Int) ≤ 0 by omega) (pAll1 (show (101 + ((-1) * ρ 19 + 0) : Int) ≤ 0 by omega) (pAll1 (show (0 + (1 * ρ 7 + 0) : Int) ≤ 0 by omega) (pAll1 (show (0 + ((-1) * ρ 7 + 0) : Int) ≤ 0 by omega) (pAll1 (show (1 + (1 * ρ 18 + ((-1) * ((wSk (wN h) (wB h) ((wSk (wN h) (wB h) (p)) + 1)) : Int) + 0)) : Int) ≤ 0 by omega) (pAll1 (show (0 + ((-1) * ρ 2 + (1 * ((wSk (wN h) (wB h) ((wSk (wN h) (wB h) (p)) + 1)) : Int) + 0)) : Int) ≤ 0 by omega) (pAll1 (show (1 + (1 * ((wSk (wN h) (wB h) ((wSk (wN h) (wB h) (p)) + 1)) : Int) + ((-1) * (e : Int) + 0)) : Int) ≤ 0 by omega) (pAll1 (show (0 + ((-1) * ρ 2 + (1 * (e : Int) + 0)) : Int) ≤ 0 by omega) (pAll1 (show (0 + ((-1) * (w : Int) + 0) : Int) ≤ 0 by omega) (pAll1 (show ((-9) + (1 * (w : Int) + 0) : Int) ≤ 0 by omega) (pAll0))))))))))))))
            · exact pAll1 (pgS ho hh ((wSk (wN h) (wB h) (p)) + 1) (by omega) (show (1 + (1 * ρ 18 + 0) : Int) = _ by omega) (show (0 + (1 * ((wSk (wN h) (wB h) ((wSk (wN h) (wB h) (p)) + 1)) : Int) + 0) : Int) = _ by omega)) (pAll1 (pgF hf 542 (by decide) (by decide) ((wSk (wN h) (wB h) ((wSk (wN h) (wB h) (p)) + 1))) (by omega) (show (0 + (1 * ((wSk (wN h) (wB h) ((wSk (wN h) (wB h) (p)) + 1)) : Int) + 0) : Int) = _ by omega) (show (0 + (1 * (e : Int) + 0) : Int) = _ by rw [fA_NR d0 hn]; omega)) (pAll1 (pgF hf 543 (by decide) (by decide) ((wSk (wN h) (wB h) ((wSk (wN h) (wB h) (p)) + 1))) (by omega) (show (0 + (1 * ((wSk (wN h) (wB h) ((wSk (wN h) (wB h) (p)) + 1)) : Int) + 0) : Int) = _ by omega) (show (0 + (1 * (w : Int) + 0) : Int) = _ by rw [fA_NV d4 d5]; omega)) (pAll1 (pgF hf 531 (by decide) (by decide) (16 * e + (g + 4)) (by omega) (show (4 + (1 * ρ 4 + (16 * (e : Int) + 0)) : Int) = _ by omega) (show (0 + (1 * ρ 17 + 0) : Int) = _ by rw [fA_IT1 (g := g + 4) d9 d3 hn]; omega)) (pAll1 (pgF hf 563 (by decide) (by decide) (1600 * e + 100 * (g + 4) + v0) (by omega) (show (400 + (100 * ρ 4 + (1 * ρ 9 + (1600 * (e : Int) + 0))) : Int) = _ by omega) (show (0 + (1 * ρ 13 + 0) : Int) = _ by rw [fA_I (s := 1) (j := 0) (r := 563) (g := g + 4) (v := v0) (Or.inr ⟨rfl, rfl, by decide⟩) d9 d3 (by omega)]; omega)) (pAll1 (pgF hf 564 (by decide) (by decide) (1600 * e + 100 * (g + 4) + v1) (by omega) (show (400 + (100 * ρ 4 + (1 * ρ 10 + (1600 * (e : Int) + 0))) : Int) = _ by omega) (show (0 + (1 * ρ 14 + 0) : Int) = _ by rw [fA_I (s := 1) (j := 1) (r := 564) (g := g + 4) (v := v1) (Or.inr ⟨rfl, rfl, by decide⟩) d9 d3 (by omega)]; omega)) (pAll1 (pgF hf 565 (by decide) (by decide) (1600 * e + 100 * (g + 4) + w) (by omega) (show (400 + (100 * ρ 4 + (1600 * (e : Int) + (1 * (w : Int) + 0))) : Int) = _ by omega) (show (0 + (1 * ρ 15 + 0) : Int) = _ by rw [fA_I (s := 1) (j := 2) (r := 565) (g := g + 4) (v := w) (Or.inr ⟨rfl, rfl, by decide⟩) d9 d3 (by omega)]; omega)) (pAll1 (pgF hf 566 (by decide) (by decide) (1600 * e + 100 * (g + 4) + v3) (by omega) (show (400 + (100 * ρ 4 + (1 * ρ 12 + (1600 * (e : Int) + 0))) : Int) = _ by omega) (show (0 + (1 * ρ 16 + 0) : Int) = _ by rw [fA_I (s := 1) (j := 3) (r := 566) (g := g + 4) (v := v3) (Or.inr ⟨rfl, rfl, by decide⟩) d9 d3 (by omega)]; omega)) (pAll0))))))))
    · rcases hc with ⟨c8, c9⟩ | ⟨c8, c9, d0, d⟩
      · rw [c9] at er
        unfold wFl at er
        rw [c8] at hb3
        refine ⟨rIT1m_16, List.mem_of_getElem? (i := 16) rfl, pEnd [ρ 0, ρ 1, ρ 2, ρ 3, ρ 4, ρ 5, ρ 6, ρ 7, ρ 8, ρ 9, ρ 10, ρ 11, ρ 12, ρ 13, ρ 14, ρ 15, ρ 16, ρ 17, ρ 18, ρ 19] rfl ?_ ?_ ?_ ?_⟩
        · exact hL
        · intro k b hk
          cases hk
        · exact pAll1 (show (0 + (1 * ρ 3 + ((-1) * ρ 18 + 0)) : Int) ≤ 0 by omega) (pAll1 (show (0 + ((-1) * ρ 2 + (1 * ρ 18 + 0)) : Int) ≤ 0 by omega) (pAll1 (show (1 + ((-1) * ρ 2 + (1 * ρ 18 + 0)) : Int) ≤ 0 by omega) (pAll1 (show (1 + ((-1) * ρ 19 + 0) : Int) ≤ 0 by omega) (pAll1 (show ((-98) + (1 * ρ 19 + 0) : Int) ≤ 0 by omega) (pAll1 (show (98 + ((-1) * ρ 19 + 0) : Int) ≤ 0 by omega) (pAll1 (show ((-1) + (1 * ρ 8 + 0) : Int) ≤ 0 by omega) (pAll1 (show (1 + ((-1) * ρ 8 + 0) : Int) ≤ 0 by omega) (pAll1 (show (1 + (1 * ρ 17 + (1 * ρ 18 + 0)) : Int) ≤ 0 by omega) (pAll1 (show ((-1) + ((-1) * ρ 17 + ((-1) * ρ 18 + 0)) : Int) ≤ 0 by omega) (pAll1 (show (1 + (1 * ρ 3 + (1 * ρ 17 + 0)) : Int) ≤ 0 by omega) (pAll1 (show ((-1) + ((-1) * ρ 3 + ((-1) * ρ 17 + 0)) : Int) ≤ 0 by omega) (pAll0))))))))))))
        · exact pAll0
      · rw [c8] at hb3
        have c9 : (wSk (wN h) (wB h) (p)) + 1 ≤ (wSk (wN h) (wB h) ((wSk (wN h) (wB h) (p)) + 1)) := c9
        have d0 : (wSk (wN h) (wB h) ((wSk (wN h) (wB h) (p)) + 1)) ≤ wN h := d0
        rcases d with ⟨d1, d2, d3, d4⟩ | ⟨e, d1, d2, d3, d4, d5, d6⟩
        · have d1 : (fNr (wN h) (wB h) (wSk (wN h) (wB h) ((wSk (wN h) (wB h) (p)) + 1))) < 0 := d1
          have d2 : (fI (wN h) (wB h) 1 (g) (p)) = (fNr (wN h) (wB h) (wSk (wN h) (wB h) ((wSk (wN h) (wB h) (p)) + 1))) := d2
          have d3 : ((wSk (wN h) (wB h) ((wSk (wN h) (wB h) (p)) + 1)) : Int) ≤ -(fNr (wN h) (wB h) (wSk (wN h) (wB h) ((wSk (wN h) (wB h) (p)) + 1))) - 1 := d3
          have d4 : -(fNr (wN h) (wB h) (wSk (wN h) (wB h) ((wSk (wN h) (wB h) (p)) + 1))) - 1 ≤ (wN h : Int) := d4
          rw [d2] at er
          refine ⟨rIT1m_17, List.mem_of_getElem? (i := 17) rfl, pEnd [ρ 0, ρ 1, ρ 2, ρ 3, ρ 4, ρ 5, ρ 6, ρ 7, ρ 8, ρ 9, ρ 10, ρ 11, ρ 12, ρ 13, ρ 14, ρ 15, ρ 16, ρ 17, ρ 18, ρ 19, ((wSk (wN h) (wB h) ((wSk (wN h) (wB h) (p)) + 1)) : Int), (fNr (wN h) (wB h) (wSk (wN h) (wB h) ((wSk (wN h) (wB h) (p)) + 1)))] rfl ?_ ?_ ?_ ?_⟩
          · intro j hj
            match j, hj with
            | 0, _ => exact q0.symm
            | 1, _ => exact q1.symm
            | 2, _ => exact q2.symm
            | 3, _ => exact q3.symm
            | 4, _ => exact q4.symm
            | 5, _ => exact q5.symm
            | 6, _ => exact q6.symm
            | 7, _ => exact q7.symm
            | 8, _ => exact q8.symm
            | 9, _ => exact q9.symm
            | 10, _ => exact q10.symm
            | 11, _ => exact q11.symm
            | 12, _ => exact q12.symm
            | 13, _ => exact q13.symm
            | 14, _ => exact q14.symm
            | 15, _ => exact q15.symm
            | 16, _ => exact q16.symm
            | 17, _ => exact q17.symm
            | 18, _ => exact q18.symm
            | 19, _ => exact q19.symm
            | k + 20, hj => exact absurd hj (by show ¬ (k + 20 < 20); omega)
          · intro k b hk
            match k, hk with
            | 0, hk => cases hk; exact (show (0 : Int) ≤ ((wSk (wN h) (wB h) ((wSk (wN h) (wB h) (p)) + 1)) : Int) ∧ ((wSk (wN h) (wB h) ((wSk (wN h) (wB h) (p)) + 1)) : Int) ≤ (240 : Int) by omega)
            | 1, hk => cases hk; exact (show ((-241) : Int) ≤ (fNr (wN h) (wB h) (wSk (wN h) (wB h) ((wSk (wN h) (wB h) (p)) + 1))) ∧ (fNr (wN h) (wB h) (wSk (wN h) (wB h) ((wSk (wN h) (wB h) (p)) + 1))) ≤ ((-1) : Int) by omega)
            | k + 2, hk => cases hk
          · exact pAll1 (show (0 + (1 * ρ 3 + ((-1) * ρ 18 + 0)) : Int) ≤ 0 by omega) (pAll1 (show (0 + ((-1) * ρ 2 + (1 * ρ 18 + 0)) : Int) ≤ 0 by omega) (pAll1 (show (1 + ((-1) * ρ 2 + (1 * ρ 18 + 0)) : Int) ≤ 0 by omega) (pAll1 (show (1 + ((-1) * ρ 19 + 0) : Int) ≤ 0 by omega) (pAll1 (show ((-98) + (1 * ρ 19 + 0) : Int) ≤ 0 by omega) (pAll1 (show (98 + ((-1) * ρ 19 + 0) : Int) ≤ 0 by omega) (pAll1 (show (0 + (1 * ρ 8 + 0) : Int) ≤ 0 by omega) (pAll1 (show (0 + ((-1) * ρ 8 + 0) : Int) ≤ 0 by omega) (pAll1 (show (1 + (1 * ρ 18 + ((-1) * ((wSk (wN h) (wB h) ((wSk (wN h) (wB h) (p)) + 1)) : Int) + 0)) : Int) ≤ 0 by omega) (pAll1 (show (0 + ((-1) * ρ 2 + (1 * ((wSk (wN h) (wB h) ((wSk (wN h) (wB h) (p)) + 1)) : Int) + 0)) : Int) ≤ 0 by omega) (pAll1 (show (0 + (1 * ρ 17 + ((-1) * (fNr (wN h) (wB h) (wSk (wN h) (wB h) ((wSk (wN h) (wB h) (p)) + 1))) + 0)) : Int) ≤ 0 by omega) (pAll1 (show (0 + ((-1) * ρ 17 + (1 * (fNr (wN h) (wB h) (wSk (wN h) (wB h) ((wSk (wN h) (wB h) (p)) + 1))) + 0)) : Int) ≤ 0 by omega) (pAll1 (show (1 + (1 * ((wSk (wN h) (wB h) ((wSk (wN h) (wB h) (p)) + 1)) : Int) + (1 * (fNr (wN h) (wB h) (wSk (wN h) (wB h) ((wSk (wN h) (wB h) (p)) + 1))) + 0)) : Int) ≤ 0 by omega) (pAll1 (show ((-1) + ((-1) * ρ 2 + ((-1) * (fNr (wN h) (wB h) (wSk (wN h) (wB h) ((wSk (wN h) (wB h) (p)) + 1))) + 0)) : Int) ≤ 0 by omega) (pAll0))))))))))))))
          · exact pAll1 (pgS ho hh ((wSk (wN h) (wB h) (p)) + 1) (by omega) (show (1 + (1 * ρ 18 + 0) : Int) = _ by omega) (show (0 + (1 * ((wSk (wN h) (wB h) ((wSk (wN h) (wB h) (p)) + 1)) : Int) + 0) : Int) = _ by omega)) (pAll1 (pgF hf 542 (by decide) (by decide) ((wSk (wN h) (wB h) ((wSk (wN h) (wB h) (p)) + 1))) (by omega) (show (0 + (1 * ((wSk (wN h) (wB h) ((wSk (wN h) (wB h) (p)) + 1)) : Int) + 0) : Int) = _ by omega) (show (0 + (1 * (fNr (wN h) (wB h) (wSk (wN h) (wB h) ((wSk (wN h) (wB h) (p)) + 1))) + 0) : Int) = _ by rw [fA_NR d0 hn]; omega)) (pAll0))
        · have d1 : (fNr (wN h) (wB h) (wSk (wN h) (wB h) ((wSk (wN h) (wB h) (p)) + 1))) = (e : Int) := d1
          have d2 : (wSk (wN h) (wB h) ((wSk (wN h) (wB h) (p)) + 1)) < e := d2
          have d4 : 0 ≤ (fNv (wN h) (wB h) (wSk (wN h) (wB h) ((wSk (wN h) (wB h) (p)) + 1))) := d4
          have d5 : (fNv (wN h) (wB h) (wSk (wN h) (wB h) ((wSk (wN h) (wB h) (p)) + 1))) ≤ 99 := d5
          obtain ⟨w, ew⟩ : ∃ w : Nat, (fNv (wN h) (wB h) (wSk (wN h) (wB h) ((wSk (wN h) (wB h) (p)) + 1))) = (w : Int) := ⟨(fNv (wN h) (wB h) (wSk (wN h) (wB h) ((wSk (wN h) (wB h) (p)) + 1))).toNat, by omega⟩
          have l1 : fLo 1 3 = 0 := rfl
          have l2 : fHi 1 3 = 9 := rfl
          rw [l1, l2] at d6
          rcases d6 with ⟨d7, d8⟩ | ⟨d7, d8, d9, d10, d11⟩
          · rw [d8] at er
            have d7 : (fNv (wN h) (wB h) (wSk (wN h) (wB h) ((wSk (wN h) (wB h) (p)) + 1))) < 0 ∨ 9 < (fNv (wN h) (wB h) (wSk (wN h) (wB h) ((wSk (wN h) (wB h) (p)) + 1))) := d7
            rcases d7 with d7 | d7
            · omega
            · refine ⟨rIT1m_19, List.mem_of_getElem? (i := 19) rfl, pEnd [ρ 0, ρ 1, ρ 2, ρ 3, ρ 4, ρ 5, ρ 6, ρ 7, ρ 8, ρ 9, ρ 10, ρ 11, ρ 12, ρ 13, ρ 14, ρ 15, ρ 16, ρ 17, ρ 18, ρ 19, ((wSk (wN h) (wB h) ((wSk (wN h) (wB h) (p)) + 1)) : Int), (e : Int), (w : Int)] rfl ?_ ?_ ?_ ?_⟩
              · intro j hj
                match j, hj with
                | 0, _ => exact q0.symm
                | 1, _ => exact q1.symm
                | 2, _ => exact q2.symm
                | 3, _ => exact q3.symm
                | 4, _ => exact q4.symm
                | 5, _ => exact q5.symm
                | 6, _ => exact q6.symm
                | 7, _ => exact q7.symm
                | 8, _ => exact q8.symm
                | 9, _ => exact q9.symm
                | 10, _ => exact q10.symm
                | 11, _ => exact q11.symm
                | 12, _ => exact q12.symm
                | 13, _ => exact q13.symm
                | 14, _ => exact q14.symm
                | 15, _ => exact q15.symm
                | 16, _ => exact q16.symm
                | 17, _ => exact q17.symm
                | 18, _ => exact q18.symm
                | 19, _ => exact q19.symm
                | k + 20, hj => exact absurd hj (by show ¬ (k + 20 < 20); omega)
              · intro k b hk
                match k, hk with
                | 0, hk => cases hk; exact (show (0 : Int) ≤ ((wSk (wN h) (wB h) ((wSk (wN h) (wB h) (p)) + 1)) : Int) ∧ ((wSk (wN h) (wB h) ((wSk (wN h) (wB h) (p)) + 1)) : Int) ≤ (240 : Int) by omega)
                | 1, hk => cases hk; exact (show (0 : Int) ≤ (e : Int) ∧ (e : Int) ≤ (240 : Int) by omega)
                | 2, hk => cases hk; exact (show (0 : Int) ≤ (w : Int) ∧ (w : Int) ≤ (99 : Int) by omega)
                | k + 3, hk => cases hk
              · exact pAll1 (show (0 + (1 * ρ 3 + ((-1) * ρ 18 + 0)) : Int) ≤ 0 by omega) (pAll1 (show (0 + ((-1) * ρ 2 + (1 * ρ 18 + 0)) : Int) ≤ 0 by omega) (pAll1 (show (1 + ((-1) * ρ 2 + (1 * ρ 18 + 0)) : Int) ≤ 0 by omega) (pAll1 (show (1 + ((-1) * ρ 19 + 0) : Int) ≤ 0 by omega) (pAll1 (show ((-98) + (1 * ρ 19 + 0) : Int) ≤ 0 by omega) (pAll1 (show (98 + ((-1) * ρ 19 + 0) : Int) ≤ 0 by omega) (pAll1 (show (0 + (1 * ρ 8 + 0) : Int) ≤ 0 by omega) (pAll1 (show (0 + ((-1) * ρ 8 + 0) : Int) ≤ 0 by omega) (pAll1 (show (1 + (1 * ρ 18 + ((-1) * ((wSk (wN h) (wB h) ((wSk (wN h) (wB h) (p)) + 1)) : Int) + 0)) : Int) ≤ 0 by omega) (pAll1 (show (0 + ((-1) * ρ 2 + (1 * ((wSk (wN h) (wB h) ((wSk (wN h) (wB h) (p)) + 1)) : Int) + 0)) : Int) ≤ 0 by omega) (pAll1 (show (1 + (1 * ((wSk (wN h) (wB h) ((wSk (wN h) (wB h) (p)) + 1)) : Int) + ((-1) * (e : Int) + 0)) : Int) ≤ 0 by omega) (pAll1 (show (0 + ((-1) * ρ 2 + (1 * (e : Int) + 0)) : Int) ≤ 0 by omega) (pAll1 (show (10 + ((-1) * (w : Int) + 0) : Int) ≤ 0 by omega) (pAll1 (show (0 + (1 * ρ 17 + (1 * (e : Int) + 0)) : Int) ≤ 0 by omega) (pAll1 (show (0 + ((-1) * ρ 17 + ((-1) * (e : Int) + 0)) : Int) ≤ 0 by omega) (pAll0)))))))))))))))
              · exact pAll1 (pgS ho hh ((wSk (wN h) (wB h) (p)) + 1) (by omega) (show (1 + (1 * ρ 18 + 0) : Int) = _ by omega) (show (0 + (1 * ((wSk (wN h) (wB h) ((wSk (wN h) (wB h) (p)) + 1)) : Int) + 0) : Int) = _ by omega)) (pAll1 (pgF hf 542 (by decide) (by decide) ((wSk (wN h) (wB h) ((wSk (wN h) (wB h) (p)) + 1))) (by omega) (show (0 + (1 * ((wSk (wN h) (wB h) ((wSk (wN h) (wB h) (p)) + 1)) : Int) + 0) : Int) = _ by omega) (show (0 + (1 * (e : Int) + 0) : Int) = _ by rw [fA_NR d0 hn]; omega)) (pAll1 (pgF hf 543 (by decide) (by decide) ((wSk (wN h) (wB h) ((wSk (wN h) (wB h) (p)) + 1))) (by omega) (show (0 + (1 * ((wSk (wN h) (wB h) ((wSk (wN h) (wB h) (p)) + 1)) : Int) + 0) : Int) = _ by omega) (show (0 + (1 * (w : Int) + 0) : Int) = _ by rw [fA_NV d4 d5]; omega)) (pAll0)))
          · have d7 : 0 ≤ (fNv (wN h) (wB h) (wSk (wN h) (wB h) ((wSk (wN h) (wB h) (p)) + 1))) := d7
            have d8 : (fNv (wN h) (wB h) (wSk (wN h) (wB h) ((wSk (wN h) (wB h) (p)) + 1))) ≤ 9 := d8
            have d9 : g + 8 < 16 := d9
            have d10 : (fI (wN h) (wB h) 1 (g) (p)) = (fI (wN h) (wB h) 1 (g + 8) (e)) := d10
            rw [d10] at er
            have x0 : (fV (wN h) (wB h) 1 0 (g) (p) (v0 : Int)) = (fV (wN h) (wB h) 1 0 (g + 8) (e) (v0 : Int)) := by
              have y := d11 0 (v0 : Int)
              rw [if_neg (by decide)] at y
              exact y
            rw [x0] at ef0
            have x1 : (fV (wN h) (wB h) 1 1 (g) (p) (v1 : Int)) = (fV (wN h) (wB h) 1 1 (g + 8) (e) (v1 : Int)) := by
              have y := d11 1 (v1 : Int)
              rw [if_neg (by decide)] at y
              exact y
            rw [x1] at ef1
            have x2 : (fV (wN h) (wB h) 1 2 (g) (p) (v2 : Int)) = (fV (wN h) (wB h) 1 2 (g + 8) (e) (v2 : Int)) := by
              have y := d11 2 (v2 : Int)
              rw [if_neg (by decide)] at y
              exact y
            rw [x2] at ef2
            have x3 : (fV (wN h) (wB h) 1 3 (g) (p) (v3 : Int)) = (fV (wN h) (wB h) 1 3 (g + 8) (e) (w : Int)) := by
              have y := d11 3 (v3 : Int)
              rw [if_pos rfl] at y
              have y : (fV (wN h) (wB h) 1 3 (g) (p) (v3 : Int)) = (fV (wN h) (wB h) 1 3 (g + 8) (e) (fNv (wN h) (wB h) (wSk (wN h) (wB h) ((wSk (wN h) (wB h) (p)) + 1)))) := y
              rw [ew] at y
              exact y
            rw [x3] at ef3
            refine ⟨rIT1m_18, List.mem_of_getElem? (i := 18) rfl, pEnd [ρ 0, ρ 1, ρ 2, ρ 3, ρ 4, ρ 5, ρ 6, ρ 7, ρ 8, ρ 9, ρ 10, ρ 11, ρ 12, ρ 13, ρ 14, ρ 15, ρ 16, ρ 17, ρ 18, ρ 19, ((wSk (wN h) (wB h) ((wSk (wN h) (wB h) (p)) + 1)) : Int), (e : Int), (w : Int)] rfl ?_ ?_ ?_ ?_⟩
            · intro j hj
              match j, hj with
              | 0, _ => exact q0.symm
              | 1, _ => exact q1.symm
              | 2, _ => exact q2.symm
              | 3, _ => exact q3.symm
              | 4, _ => exact q4.symm
              | 5, _ => exact q5.symm
              | 6, _ => exact q6.symm
              | 7, _ => exact q7.symm
              | 8, _ => exact q8.symm
              | 9, _ => exact q9.symm
              | 10, _ => exact q10.symm
              | 11, _ => exact q11.symm
              | 12, _ => exact q12.symm
              | 13, _ => exact q13.symm
              | 14, _ => exact q14.symm
              | 15, _ => exact q15.symm
              | 16, _ => exact q16.symm
              | 17, _ => exact q17.symm
              | 18, _ => exact q18.symm
              | 19, _ => exact q19.symm
              | k + 20, hj => exact absurd hj (by show ¬ (k + 20 < 20); omega)
            · intro k b hk
              match k, hk with
              | 0, hk => cases hk; exact (show (0 : Int) ≤ ((wSk (wN h) (wB h) ((wSk (wN h) (wB h) (p)) + 1)) : Int) ∧ ((wSk (wN h) (wB h) ((wSk (wN h) (wB h) (p)) + 1)) : Int) ≤ (240 : Int) by omega)
              | 1, hk => cases hk; exact (show (0 : Int) ≤ (e : Int) ∧ (e : Int) ≤ (240 : Int) by omega)
              | 2, hk => cases hk; exact (show (0 : Int) ≤ (w : Int) ∧ (w : Int) ≤ (99 : Int) by omega)
              | k + 3, hk => cases hk
            · exact pAll1 (show (0 + (1 * ρ 3 + ((-1) * ρ 18 + 0)) : Int) ≤ 0 by omega) (pAll1 (show (0 + ((-1) * ρ 2 + (1 * ρ 18 + 0)) : Int) ≤ 0 by omega) (pAll1 (show (1 + ((-1) * ρ 2 + (1 * ρ 18 + 0)) : Int) ≤ 0 by omega) (pAll1 (show (1 + ((-1) * ρ 19 + 0) : Int) ≤ 0 by omega) (pAll1 (show ((-98) + (1 * ρ 19 + 0) : Int) ≤ 0 by omega) (pAll1 (show (98 + ((-1) * ρ 19 + 0) : Int) ≤ 0 by omega) (pAll1 (show (0 + (1 * ρ 8 + 0) : Int) ≤ 0 by omega) (pAll1 (show (0 + ((-1) * ρ 8 + 0) : Int) ≤ 0 by omega) (pAll1 (show (1 + (1 * ρ 18 + ((-1) * ((wSk (wN h) (wB h) ((wSk (wN h) (wB h) (p)) + 1)) : Int) + 0)) : Int) ≤ 0 by omega) (pAll1 (show (0 + ((-1) * ρ 2 + (1 * ((wSk (wN h) (wB h) ((wSk (wN h) (wB h) (p)) + 1)) : Int) + 0)) : Int) ≤ 0 by omega) (pAll1 (show (1 + (1 * ((wSk (wN h) (wB h) ((wSk (wN h) (wB h) (p)) + 1)) : Int) + ((-1) * (e : Int) + 0)) : Int) ≤ 0 by omega) (pAll1 (show (0 + ((-1) * ρ 2 + (1 * (e : Int) + 0)) : Int) ≤ 0 by omega) (pAll1 (show (0 + ((-1) * (w : Int) + 0) : Int) ≤ 0 by omega) (pAll1 (show ((-9) + (1 * (w : Int) + 0) : Int) ≤ 0 by omega) (pAll0))))))))))))))
            · exact pAll1 (pgS ho hh ((wSk (wN h) (wB h) (p)) + 1) (by omega) (show (1 + (1 * ρ 18 + 0) : Int) = _ by omega) (show (0 + (1 * ((wSk (wN h) (wB h) ((wSk (wN h) (wB h) (p)) + 1)) : Int) + 0) : Int) = _ by omega)) (pAll1 (pgF hf 542 (by decide) (by decide) ((wSk (wN h) (wB h) ((wSk (wN h) (wB h) (p)) + 1))) (by omega) (show (0 + (1 * ((wSk (wN h) (wB h) ((wSk (wN h) (wB h) (p)) + 1)) : Int) + 0) : Int) = _ by omega) (show (0 + (1 * (e : Int) + 0) : Int) = _ by rw [fA_NR d0 hn]; omega)) (pAll1 (pgF hf 543 (by decide) (by decide) ((wSk (wN h) (wB h) ((wSk (wN h) (wB h) (p)) + 1))) (by omega) (show (0 + (1 * ((wSk (wN h) (wB h) ((wSk (wN h) (wB h) (p)) + 1)) : Int) + 0) : Int) = _ by omega) (show (0 + (1 * (w : Int) + 0) : Int) = _ by rw [fA_NV d4 d5]; omega)) (pAll1 (pgF hf 531 (by decide) (by decide) (16 * e + (g + 8)) (by omega) (show (8 + (1 * ρ 4 + (16 * (e : Int) + 0)) : Int) = _ by omega) (show (0 + (1 * ρ 17 + 0) : Int) = _ by rw [fA_IT1 (g := g + 8) d9 d3 hn]; omega)) (pAll1 (pgF hf 563 (by decide) (by decide) (1600 * e + 100 * (g + 8) + v0) (by omega) (show (800 + (100 * ρ 4 + (1 * ρ 9 + (1600 * (e : Int) + 0))) : Int) = _ by omega) (show (0 + (1 * ρ 13 + 0) : Int) = _ by rw [fA_I (s := 1) (j := 0) (r := 563) (g := g + 8) (v := v0) (Or.inr ⟨rfl, rfl, by decide⟩) d9 d3 (by omega)]; omega)) (pAll1 (pgF hf 564 (by decide) (by decide) (1600 * e + 100 * (g + 8) + v1) (by omega) (show (800 + (100 * ρ 4 + (1 * ρ 10 + (1600 * (e : Int) + 0))) : Int) = _ by omega) (show (0 + (1 * ρ 14 + 0) : Int) = _ by rw [fA_I (s := 1) (j := 1) (r := 564) (g := g + 8) (v := v1) (Or.inr ⟨rfl, rfl, by decide⟩) d9 d3 (by omega)]; omega)) (pAll1 (pgF hf 565 (by decide) (by decide) (1600 * e + 100 * (g + 8) + v2) (by omega) (show (800 + (100 * ρ 4 + (1 * ρ 11 + (1600 * (e : Int) + 0))) : Int) = _ by omega) (show (0 + (1 * ρ 15 + 0) : Int) = _ by rw [fA_I (s := 1) (j := 2) (r := 565) (g := g + 8) (v := v2) (Or.inr ⟨rfl, rfl, by decide⟩) d9 d3 (by omega)]; omega)) (pAll1 (pgF hf 566 (by decide) (by decide) (1600 * e + 100 * (g + 8) + w) (by omega) (show (800 + (100 * ρ 4 + (1600 * (e : Int) + (1 * (w : Int) + 0))) : Int) = _ by omega) (show (0 + (1 * ρ 16 + 0) : Int) = _ by rw [fA_I (s := 1) (j := 3) (r := 566) (g := g + 8) (v := w) (Or.inr ⟨rfl, rfl, by decide⟩) d9 d3 (by omega)]; omega)) (pAll0))))))))
    · omega
noncomputable def rNRm_0 : sX := (none, [], [], [(0, [(3, 1), (4, (-1))]), (0, [(2, (-1)), (4, 1)]), ((-47), [(5, 1)]), (1, [(4, 1), (6, 1)]), ((-1), [(4, (-1)), (6, (-1))])], [])
noncomputable def rNRm_1 : sX := (none, [], [], [(0, [(3, 1), (4, (-1))]), (0, [(2, (-1)), (4, 1)]), (58, [(5, (-1))]), (1, [(4, 1), (6, 1)]), ((-1), [(4, (-1)), (6, (-1))])], [])
noncomputable def rNRm_2 : sX := (none, [], [], [(0, [(3, 1), (4, (-1))]), (0, [(2, (-1)), (4, 1)]), (1, [(2, (-1)), (4, 1)]), (1, [(5, (-1))]), (1, [(2, (-1)), (4, 1)]), (48, [(5, (-1))]), ((-57), [(5, 1)]), ((-47), [(8, 1)]), ((-1), [(4, (-1)), (6, 1)]), (1, [(4, 1), (6, (-1))]), (48, [(5, (-1)), (7, 1)]), ((-48), [(5, 1), (7, (-1))])], [])
noncomputable def rNRm_3 : sX := (none, [], [], [(0, [(3, 1), (4, (-1))]), (0, [(2, (-1)), (4, 1)]), (1, [(2, (-1)), (4, 1)]), (1, [(5, (-1))]), (1, [(2, (-1)), (4, 1)]), (48, [(5, (-1))]), ((-57), [(5, 1)]), (58, [(8, (-1))]), ((-1), [(4, (-1)), (6, 1)]), (1, [(4, 1), (6, (-1))]), (48, [(5, (-1)), (7, 1)]), ((-48), [(5, 1), (7, (-1))])], [])
noncomputable def rNRm_4 : sX := (none, [], [], [(0, [(3, 1), (4, (-1))]), (0, [(2, (-1)), (4, 1)]), (1, [(2, (-1)), (4, 1)]), (1, [(5, (-1))]), (3, [(2, (-1)), (4, 1)]), (48, [(5, (-1))]), ((-57), [(5, 1)]), (48, [(8, (-1))]), ((-57), [(8, 1)]), (48, [(9, (-1))]), ((-57), [(9, 1)]), (3, [(4, 1), (6, 1)]), ((-3), [(4, (-1)), (6, (-1))])], [])
noncomputable def rNRm_5 : sX := (none, [], [], [(0, [(3, 1), (4, (-1))]), (0, [(2, (-1)), (4, 1)]), (1, [(2, (-1)), (4, 1)]), (1, [(5, (-1))]), (2, [(2, (-1)), (4, 1)]), (48, [(5, (-1))]), ((-57), [(5, 1)]), (48, [(8, (-1))]), ((-57), [(8, 1)]), ((-47), [(9, 1)]), ((-2), [(4, (-1)), (6, 1)]), (2, [(4, 1), (6, (-1))]), (528, [(5, (-10)), (7, 1), (8, (-1))]), ((-528), [(5, 10), (7, (-1)), (8, 1)])], [])
noncomputable def rNRm_6 : sX := (none, [], [], [(0, [(3, 1), (4, (-1))]), (0, [(2, (-1)), (4, 1)]), (1, [(2, (-1)), (4, 1)]), (1, [(5, (-1))]), (2, [(2, (-1)), (4, 1)]), (48, [(5, (-1))]), ((-57), [(5, 1)]), (48, [(8, (-1))]), ((-57), [(8, 1)]), (58, [(9, (-1))]), ((-2), [(4, (-1)), (6, 1)]), (2, [(4, 1), (6, (-1))]), (528, [(5, (-10)), (7, 1), (8, (-1))]), ((-528), [(5, 10), (7, (-1)), (8, 1)])], [])
noncomputable def rNRm : sQ := (0, ([], [(2, 1013, (0, [])), (2, 1020, (0, [])), (2, 120, (2, [])), (2, 120, (3, [])), (2, 500, (0, [(3, 1)])), (2, 501, (0, [(4, 1)])), (2, 542, (0, [(4, 1)])), (2, 543, (0, [(4, 1)])), (2, 501, (1, [(4, 1)])), (2, 501, (2, [(4, 1)]))], [(1, 1), (1, 1), (0, 240), (0, 240), (0, 240), (0, 255), ((-241), 240), (0, 99), (0, 255), (0, 255)], [(0, [(2, (-1)), (3, 1)])], [(0, 0), (1, 1), (2, 2), (3, 3), (4, 4), (5, 5), (6, 6), (7, 7), (8, 8), (9, 9)], (0, [])), [rNRm_0, rNRm_1, rNRm_2, rNRm_3, rNRm_4, rNRm_5, rNRm_6], [], 0)
theorem rNRm_ok : pRul pReg pG pgv (rNRm) := by
  intro loc h ρ ρ0 hG hM
  have hM : sMt pReg pgv ρ ρ0 (sAs (rNRm).2.1) loc [] h := hM
  have q0 : ρ0 1 = ρ 0 := (hM.2.2.2.2.2 (1, sY 0) (List.mem_of_getElem? (i := 1) rfl)).trans (sY_v ρ 0)
  have q1 : ρ0 2 = ρ 1 := (hM.2.2.2.2.2 (2, sY 1) (List.mem_of_getElem? (i := 2) rfl)).trans (sY_v ρ 1)
  have q2 : ρ0 3 = ρ 2 := (hM.2.2.2.2.2 (3, sY 2) (List.mem_of_getElem? (i := 3) rfl)).trans (sY_v ρ 2)
  have q3 : ρ0 4 = ρ 3 := (hM.2.2.2.2.2 (4, sY 3) (List.mem_of_getElem? (i := 4) rfl)).trans (sY_v ρ 3)
  have q4 : ρ0 5 = ρ 4 := (hM.2.2.2.2.2 (5, sY 4) (List.mem_of_getElem? (i := 5) rfl)).trans (sY_v ρ 4)
  have q5 : ρ0 6 = ρ 5 := (hM.2.2.2.2.2 (6, sY 5) (List.mem_of_getElem? (i := 6) rfl)).trans (sY_v ρ 5)
  have q6 : ρ0 7 = ρ 6 := (hM.2.2.2.2.2 (7, sY 6) (List.mem_of_getElem? (i := 7) rfl)).trans (sY_v ρ 6)
  have q7 : ρ0 8 = ρ 7 := (hM.2.2.2.2.2 (8, sY 7) (List.mem_of_getElem? (i := 8) rfl)).trans (sY_v ρ 7)
  have q8 : ρ0 9 = ρ 8 := (hM.2.2.2.2.2 (9, sY 8) (List.mem_of_getElem? (i := 9) rfl)).trans (sY_v ρ 8)
  have q9 : ρ0 10 = ρ 9 := (hM.2.2.2.2.2 (10, sY 9) (List.mem_of_getElem? (i := 10) rfl)).trans (sY_v ρ 9)
  have hL : ∀ j, j < 10 → pL [ρ 0, ρ 1, ρ 2, ρ 3, ρ 4, ρ 5, ρ 6, ρ 7, ρ 8, ρ 9] j = ρ0 (j + 1) := by
    intro j hj
    match j, hj with
    | 0, _ => exact q0.symm
    | 1, _ => exact q1.symm
    | 2, _ => exact q2.symm
    | 3, _ => exact q3.symm
    | 4, _ => exact q4.symm
    | 5, _ => exact q5.symm
    | 6, _ => exact q6.symm
    | 7, _ => exact q7.symm
    | 8, _ => exact q8.symm
    | 9, _ => exact q9.symm
    | k + 10, hj => omega
  have b0 : (1 : Int) ≤ ρ 0 ∧ ρ 0 ≤ 1 := hM.2.2.2.1 0 (1, 1) rfl
  have b1 : (1 : Int) ≤ ρ 1 ∧ ρ 1 ≤ 1 := hM.2.2.2.1 1 (1, 1) rfl
  have b2 : (0 : Int) ≤ ρ 2 ∧ ρ 2 ≤ 240 := hM.2.2.2.1 2 (0, 240) rfl
  have b3 : (0 : Int) ≤ ρ 3 ∧ ρ 3 ≤ 240 := hM.2.2.2.1 3 (0, 240) rfl
  have b4 : (0 : Int) ≤ ρ 4 ∧ ρ 4 ≤ 240 := hM.2.2.2.1 4 (0, 240) rfl
  have b5 : (0 : Int) ≤ ρ 5 ∧ ρ 5 ≤ 255 := hM.2.2.2.1 5 (0, 255) rfl
  have b6 : ((-241) : Int) ≤ ρ 6 ∧ ρ 6 ≤ 240 := hM.2.2.2.1 6 ((-241), 240) rfl
  have b7 : (0 : Int) ≤ ρ 7 ∧ ρ 7 ≤ 99 := hM.2.2.2.1 7 (0, 99) rfl
  have b8 : (0 : Int) ≤ ρ 8 ∧ ρ 8 ≤ 255 := hM.2.2.2.1 8 (0, 255) rfl
  have b9 : (0 : Int) ≤ ρ 9 ∧ ρ 9 ≤ 255 := hM.2.2.2.1 9 (0, 255) rfl
  have c0 : (0 + ((-1) * ρ 2 + (1 * ρ 3 + 0)) : Int) ≤ 0 := hM.2.2.2.2.1 (0, [(2, (-1)), (3, 1)]) (List.mem_of_getElem? (i := 0) rfl)
  obtain ⟨ho, hs, hh⟩ := pTold13 hM 0 (0, []) rfl b0.1
  have hn := ho.1
  obtain ⟨-, -, hf⟩ := pTold20 hM 1 (0, []) rfl b1.1
  have en : ρ 2 = (wN h : Int) := (pPl hM 2 120 (2, []) rfl (by omega) 440 2 (by decide +kernel) rfl).symm.trans hs.1
  obtain ⟨p, ep⟩ : ∃ p : Nat, ρ 3 = (p : Int) := ⟨(ρ 3).toNat, by omega⟩
  have hp : p ≤ wN h := by omega
  obtain ⟨s1, s2⟩ := wSk_le (B := wB h) hp
  have eq : ρ 4 = ((wSk (wN h) (wB h) (p)) : Int) := pfS hM ho hh 4 (0, [(3, 1)]) rfl (p := p) (by omega) (by show (0 + (1 * ρ 3 + 0) : Int) = _; omega)
  have ec : ρ 5 = (wCh (wN h) (wB h) ((wSk (wN h) (wB h) (p)))) := pfC hM ho hh 5 (0, [(4, 1)]) rfl (p := (wSk (wN h) (wB h) (p))) (by omega) (by show (0 + (1 * ρ 4 + 0) : Int) = _; omega)
  have cbc := wCh_bd ho ((wSk (wN h) (wB h) (p)))
  have clc : (wCh (wN h) (wB h) ((wSk (wN h) (wB h) (p)))) ≠ 0 → (wSk (wN h) (wB h) (p)) < wN h := wCh_lt
  have ey : ρ 8 = (wCh (wN h) (wB h) ((wSk (wN h) (wB h) (p)) + 1)) := pfC2 hM ho hh 8 (1, [(4, 1)]) rfl (p := (wSk (wN h) (wB h) (p)) + 1) (by omega) (by show (1 + (1 * ρ 4 + 0) : Int) = _; omega)
  have cby := wCh_bd ho ((wSk (wN h) (wB h) (p)) + 1)
  have ez : ρ 9 = (wCh (wN h) (wB h) ((wSk (wN h) (wB h) (p)) + 2)) := pfC2 hM ho hh 9 (2, [(4, 1)]) rfl (p := (wSk (wN h) (wB h) (p)) + 2) (by omega) (by show (2 + (1 * ρ 4 + 0) : Int) = _; omega)
  have cbz := wCh_bd ho ((wSk (wN h) (wB h) (p)) + 2)
  have ee : ρ 6 = (fNr (wN h) (wB h) (wSk (wN h) (wB h) (p))) := (pfF hM hf 6 542 (0, [(4, 1)]) rfl (by decide) (by decide) ((wSk (wN h) (wB h) (p))) (by omega) (by show (0 + (1 * ρ 4 + 0) : Int) = _; omega)).trans (fA_NR s2 hn)
  have ev : ∀ (a1 : 0 ≤ fNv (wN h) (wB h) (wSk (wN h) (wB h) (p))) (a2 : fNv (wN h) (wB h) (wSk (wN h) (wB h) (p)) ≤ 99), ρ 7 = fNv (wN h) (wB h) (wSk (wN h) (wB h) (p)) := fun a1 a2 => (pfF hM hf 7 543 (0, [(4, 1)]) rfl (by decide) (by decide) ((wSk (wN h) (wB h) (p))) (by omega) (by show (0 + (1 * ρ 4 + 0) : Int) = _; omega)).trans (fA_NV a1 a2)
  have hy : (wCh (wN h) (wB h) ((wSk (wN h) (wB h) (p)) + 1)) ≠ 0 → (wSk (wN h) (wB h) (p)) + 1 < wN h := wCh_lt
  have hz : (wCh (wN h) (wB h) ((wSk (wN h) (wB h) (p)) + 2)) ≠ 0 → (wSk (wN h) (wB h) (p)) + 2 < wN h := wCh_lt
  unfold fNr at ee
  unfold fNv at ev
  by_cases h0 : 48 ≤ (wCh (wN h) (wB h) ((wSk (wN h) (wB h) (p)))) ∧ (wCh (wN h) (wB h) ((wSk (wN h) (wB h) (p)))) ≤ 57
  · have hq := clc (by omega)
    rw [if_pos h0] at ee
    by_cases h1 : 48 ≤ (wCh (wN h) (wB h) ((wSk (wN h) (wB h) (p)) + 1)) ∧ (wCh (wN h) (wB h) ((wSk (wN h) (wB h) (p)) + 1)) ≤ 57
    · have hy1 := hy (by omega)
      rw [if_pos h1] at ee ev
      have ev := ev (by omega) (by omega)
      by_cases h2 : 48 ≤ (wCh (wN h) (wB h) ((wSk (wN h) (wB h) (p)) + 2)) ∧ (wCh (wN h) (wB h) ((wSk (wN h) (wB h) (p)) + 2)) ≤ 57
      · have hz1 := hz (by omega)
        rw [if_pos h2] at ee
        unfold wFl at ee
        refine ⟨rNRm_4, List.mem_of_getElem? (i := 4) rfl, pEnd [ρ 0, ρ 1, ρ 2, ρ 3, ρ 4, ρ 5, ρ 6, ρ 7, ρ 8, ρ 9] rfl ?_ ?_ ?_ ?_⟩
        · exact hL
        · intro k b hk
          cases hk
        · exact pAll1 (show (0 + (1 * ρ 3 + ((-1) * ρ 4 + 0)) : Int) ≤ 0 by omega) (pAll1 (show (0 + ((-1) * ρ 2 + (1 * ρ 4 + 0)) : Int) ≤ 0 by omega) (pAll1 (show (1 + ((-1) * ρ 2 + (1 * ρ 4 + 0)) : Int) ≤ 0 by omega) (pAll1 (show (1 + ((-1) * ρ 5 + 0) : Int) ≤ 0 by omega) (pAll1 (show (3 + ((-1) * ρ 2 + (1 * ρ 4 + 0)) : Int) ≤ 0 by omega) (pAll1 (show (48 + ((-1) * ρ 5 + 0) : Int) ≤ 0 by omega) (pAll1 (show ((-57) + (1 * ρ 5 + 0) : Int) ≤ 0 by omega) (pAll1 (show (48 + ((-1) * ρ 8 + 0) : Int) ≤ 0 by omega) (pAll1 (show ((-57) + (1 * ρ 8 + 0) : Int) ≤ 0 by omega) (pAll1 (show (48 + ((-1) * ρ 9 + 0) : Int) ≤ 0 by omega) (pAll1 (show ((-57) + (1 * ρ 9 + 0) : Int) ≤ 0 by omega) (pAll1 (show (3 + (1 * ρ 4 + (1 * ρ 6 + 0)) : Int) ≤ 0 by omega) (pAll1 (show ((-3) + ((-1) * ρ 4 + ((-1) * ρ 6 + 0)) : Int) ≤ 0 by omega) (pAll0)))))))))))))
        · exact pAll0
      · rw [if_neg h2] at ee
        have hu : (wCh (wN h) (wB h) ((wSk (wN h) (wB h) (p)) + 2)) ≤ 47 ∨ 58 ≤ (wCh (wN h) (wB h) ((wSk (wN h) (wB h) (p)) + 2)) := by omega
        rcases hu with hu | hu
        · refine ⟨rNRm_5, List.mem_of_getElem? (i := 5) rfl, pEnd [ρ 0, ρ 1, ρ 2, ρ 3, ρ 4, ρ 5, ρ 6, ρ 7, ρ 8, ρ 9] rfl ?_ ?_ ?_ ?_⟩
          · exact hL
          · intro k b hk
            cases hk
          · exact pAll1 (show (0 + (1 * ρ 3 + ((-1) * ρ 4 + 0)) : Int) ≤ 0 by omega) (pAll1 (show (0 + ((-1) * ρ 2 + (1 * ρ 4 + 0)) : Int) ≤ 0 by omega) (pAll1 (show (1 + ((-1) * ρ 2 + (1 * ρ 4 + 0)) : Int) ≤ 0 by omega) (pAll1 (show (1 + ((-1) * ρ 5 + 0) : Int) ≤ 0 by omega) (pAll1 (show (2 + ((-1) * ρ 2 + (1 * ρ 4 + 0)) : Int) ≤ 0 by omega) (pAll1 (show (48 + ((-1) * ρ 5 + 0) : Int) ≤ 0 by omega) (pAll1 (show ((-57) + (1 * ρ 5 + 0) : Int) ≤ 0 by omega) (pAll1 (show (48 + ((-1) * ρ 8 + 0) : Int) ≤ 0 by omega) (pAll1 (show ((-57) + (1 * ρ 8 + 0) : Int) ≤ 0 by omega) (pAll1 (show ((-47) + (1 * ρ 9 + 0) : Int) ≤ 0 by omega) (pAll1 (show ((-2) + ((-1) * ρ 4 + (1 * ρ 6 + 0)) : Int) ≤ 0 by omega) (pAll1 (show (2 + (1 * ρ 4 + ((-1) * ρ 6 + 0)) : Int) ≤ 0 by omega) (pAll1 (show (528 + ((-10) * ρ 5 + (1 * ρ 7 + ((-1) * ρ 8 + 0))) : Int) ≤ 0 by omega) (pAll1 (show ((-528) + (10 * ρ 5 + ((-1) * ρ 7 + (1 * ρ 8 + 0))) : Int) ≤ 0 by omega) (pAll0))))))))))))))
          · exact pAll0
        · refine ⟨rNRm_6, List.mem_of_getElem? (i := 6) rfl, pEnd [ρ 0, ρ 1, ρ 2, ρ 3, ρ 4, ρ 5, ρ 6, ρ 7, ρ 8, ρ 9] rfl ?_ ?_ ?_ ?_⟩
          · exact hL
          · intro k b hk
            cases hk
          · exact pAll1 (show (0 + (1 * ρ 3 + ((-1) * ρ 4 + 0)) : Int) ≤ 0 by omega) (pAll1 (show (0 + ((-1) * ρ 2 + (1 * ρ 4 + 0)) : Int) ≤ 0 by omega) (pAll1 (show (1 + ((-1) * ρ 2 + (1 * ρ 4 + 0)) : Int) ≤ 0 by omega) (pAll1 (show (1 + ((-1) * ρ 5 + 0) : Int) ≤ 0 by omega) (pAll1 (show (2 + ((-1) * ρ 2 + (1 * ρ 4 + 0)) : Int) ≤ 0 by omega) (pAll1 (show (48 + ((-1) * ρ 5 + 0) : Int) ≤ 0 by omega) (pAll1 (show ((-57) + (1 * ρ 5 + 0) : Int) ≤ 0 by omega) (pAll1 (show (48 + ((-1) * ρ 8 + 0) : Int) ≤ 0 by omega) (pAll1 (show ((-57) + (1 * ρ 8 + 0) : Int) ≤ 0 by omega) (pAll1 (show (58 + ((-1) * ρ 9 + 0) : Int) ≤ 0 by omega) (pAll1 (show ((-2) + ((-1) * ρ 4 + (1 * ρ 6 + 0)) : Int) ≤ 0 by omega) (pAll1 (show (2 + (1 * ρ 4 + ((-1) * ρ 6 + 0)) : Int) ≤ 0 by omega) (pAll1 (show (528 + ((-10) * ρ 5 + (1 * ρ 7 + ((-1) * ρ 8 + 0))) : Int) ≤ 0 by omega) (pAll1 (show ((-528) + (10 * ρ 5 + ((-1) * ρ 7 + (1 * ρ 8 + 0))) : Int) ≤ 0 by omega) (pAll0))))))))))))))
          · exact pAll0
    · rw [if_neg h1] at ee ev
      have ev := ev (by omega) (by omega)
      have hu : (wCh (wN h) (wB h) ((wSk (wN h) (wB h) (p)) + 1)) ≤ 47 ∨ 58 ≤ (wCh (wN h) (wB h) ((wSk (wN h) (wB h) (p)) + 1)) := by omega
      rcases hu with hu | hu
      · refine ⟨rNRm_2, List.mem_of_getElem? (i := 2) rfl, pEnd [ρ 0, ρ 1, ρ 2, ρ 3, ρ 4, ρ 5, ρ 6, ρ 7, ρ 8, ρ 9] rfl ?_ ?_ ?_ ?_⟩
        · exact hL
        · intro k b hk
          cases hk
        · exact pAll1 (show (0 + (1 * ρ 3 + ((-1) * ρ 4 + 0)) : Int) ≤ 0 by omega) (pAll1 (show (0 + ((-1) * ρ 2 + (1 * ρ 4 + 0)) : Int) ≤ 0 by omega) (pAll1 (show (1 + ((-1) * ρ 2 + (1 * ρ 4 + 0)) : Int) ≤ 0 by omega) (pAll1 (show (1 + ((-1) * ρ 5 + 0) : Int) ≤ 0 by omega) (pAll1 (show (1 + ((-1) * ρ 2 + (1 * ρ 4 + 0)) : Int) ≤ 0 by omega) (pAll1 (show (48 + ((-1) * ρ 5 + 0) : Int) ≤ 0 by omega) (pAll1 (show ((-57) + (1 * ρ 5 + 0) : Int) ≤ 0 by omega) (pAll1 (show ((-47) + (1 * ρ 8 + 0) : Int) ≤ 0 by omega) (pAll1 (show ((-1) + ((-1) * ρ 4 + (1 * ρ 6 + 0)) : Int) ≤ 0 by omega) (pAll1 (show (1 + (1 * ρ 4 + ((-1) * ρ 6 + 0)) : Int) ≤ 0 by omega) (pAll1 (show (48 + ((-1) * ρ 5 + (1 * ρ 7 + 0)) : Int) ≤ 0 by omega) (pAll1 (show ((-48) + (1 * ρ 5 + ((-1) * ρ 7 + 0)) : Int) ≤ 0 by omega) (pAll0))))))))))))
        · exact pAll0
      · refine ⟨rNRm_3, List.mem_of_getElem? (i := 3) rfl, pEnd [ρ 0, ρ 1, ρ 2, ρ 3, ρ 4, ρ 5, ρ 6, ρ 7, ρ 8, ρ 9] rfl ?_ ?_ ?_ ?_⟩
        · exact hL
        · intro k b hk
          cases hk
        · exact pAll1 (show (0 + (1 * ρ 3 + ((-1) * ρ 4 + 0)) : Int) ≤ 0 by omega) (pAll1 (show (0 + ((-1) * ρ 2 + (1 * ρ 4 + 0)) : Int) ≤ 0 by omega) (pAll1 (show (1 + ((-1) * ρ 2 + (1 * ρ 4 + 0)) : Int) ≤ 0 by omega) (pAll1 (show (1 + ((-1) * ρ 5 + 0) : Int) ≤ 0 by omega) (pAll1 (show (1 + ((-1) * ρ 2 + (1 * ρ 4 + 0)) : Int) ≤ 0 by omega) (pAll1 (show (48 + ((-1) * ρ 5 + 0) : Int) ≤ 0 by omega) (pAll1 (show ((-57) + (1 * ρ 5 + 0) : Int) ≤ 0 by omega) (pAll1 (show (58 + ((-1) * ρ 8 + 0) : Int) ≤ 0 by omega) (pAll1 (show ((-1) + ((-1) * ρ 4 + (1 * ρ 6 + 0)) : Int) ≤ 0 by omega) (pAll1 (show (1 + (1 * ρ 4 + ((-1) * ρ 6 + 0)) : Int) ≤ 0 by omega) (pAll1 (show (48 + ((-1) * ρ 5 + (1 * ρ 7 + 0)) : Int) ≤ 0 by omega) (pAll1 (show ((-48) + (1 * ρ 5 + ((-1) * ρ 7 + 0)) : Int) ≤ 0 by omega) (pAll0))))))))))))
        · exact pAll0
  · rw [if_neg h0] at ee
    unfold wFl at ee
    have hu : (wCh (wN h) (wB h) ((wSk (wN h) (wB h) (p)))) ≤ 47 ∨ 58 ≤ (wCh (wN h) (wB h) ((wSk (wN h) (wB h) (p)))) := by omega
    rcases hu with hu | hu
    · refine ⟨rNRm_0, List.mem_of_getElem? (i := 0) rfl, pEnd [ρ 0, ρ 1, ρ 2, ρ 3, ρ 4, ρ 5, ρ 6, ρ 7, ρ 8, ρ 9] rfl ?_ ?_ ?_ ?_⟩
      · exact hL
      · intro k b hk
        cases hk
      · exact pAll1 (show (0 + (1 * ρ 3 + ((-1) * ρ 4 + 0)) : Int) ≤ 0 by omega) (pAll1 (show (0 + ((-1) * ρ 2 + (1 * ρ 4 + 0)) : Int) ≤ 0 by omega) (pAll1 (show ((-47) + (1 * ρ 5 + 0) : Int) ≤ 0 by omega) (pAll1 (show (1 + (1 * ρ 4 + (1 * ρ 6 + 0)) : Int) ≤ 0 by omega) (pAll1 (show ((-1) + ((-1) * ρ 4 + ((-1) * ρ 6 + 0)) : Int) ≤ 0 by omega) (pAll0)))))
      · exact pAll0
    · refine ⟨rNRm_1, List.mem_of_getElem? (i := 1) rfl, pEnd [ρ 0, ρ 1, ρ 2, ρ 3, ρ 4, ρ 5, ρ 6, ρ 7, ρ 8, ρ 9] rfl ?_ ?_ ?_ ?_⟩
      · exact hL
      · intro k b hk
        cases hk
      · exact pAll1 (show (0 + (1 * ρ 3 + ((-1) * ρ 4 + 0)) : Int) ≤ 0 by omega) (pAll1 (show (0 + ((-1) * ρ 2 + (1 * ρ 4 + 0)) : Int) ≤ 0 by omega) (pAll1 (show (58 + ((-1) * ρ 5 + 0) : Int) ≤ 0 by omega) (pAll1 (show (1 + (1 * ρ 4 + (1 * ρ 6 + 0)) : Int) ≤ 0 by omega) (pAll1 (show ((-1) + ((-1) * ρ 4 + ((-1) * ρ 6 + 0)) : Int) ≤ 0 by omega) (pAll0)))))
      · exact pAll0
