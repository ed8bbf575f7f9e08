/-! what a ghost cell of the fort holds -/
section FFACT
variable {n : Nat} {B : Nat → Int}
theorem fCp_id {lo hi v : Int} (h1 : lo ≤ v) (h2 : v ≤ hi) : fCp lo hi v = v := if_pos ⟨h1, h2⟩
theorem fGd_b {st p : Nat} {v : Int} (hn : n ≤ 240) (h : wGd n st p v) : -241 ≤ v ∧ v ≤ 240 := by
  by_cases hv : v < 0
  · have := h.1 hv
    omega
  · have := h.2 (by omega)
    omega
theorem fA_IT0 {g p : Nat} (hg : g < 16) (hp : p ≤ n) (hn : n ≤ 240) : fArr n B 530 (16 * p + g) = fI n B 0 g p := by
  have hb := fGd_b hn (fI_gd (B := B) 0 g p hp)
  show fCp (-241) 240 (fI n B 0 ((16 * p + g) % 16) ((16 * p + g) / 16)) = _
  rw [show (16 * p + g) % 16 = g by omega, show (16 * p + g) / 16 = p by omega]
  exact fCp_id hb.1 hb.2
theorem fA_IT1 {g p : Nat} (hg : g < 16) (hp : p ≤ n) (hn : n ≤ 240) : fArr n B 531 (16 * p + g) = fI n B 1 g p := by
  have hb := fGd_b hn (fI_gd (B := B) 1 g p hp)
  show fCp (-241) 240 (fI n B 1 ((16 * p + g) % 16) ((16 * p + g) / 16)) = _
  rw [show (16 * p + g) % 16 = g by omega, show (16 * p + g) / 16 = p by omega]
  exact fCp_id hb.1 hb.2
theorem fA_ON {h m p : Nat} (hh : h < 2) (hm : m < 7) : fArr n B 532 (14 * p + 7 * h + m) = yB (fOn n B h m p) := by
  show fCp 0 1 (yB (fOn n B ((14 * p + 7 * h + m) % 14 / 7) ((14 * p + 7 * h + m) % 7) ((14 * p + 7 * h + m) / 14))) = _
  rw [show (14 * p + 7 * h + m) % 14 / 7 = h by omega, show (14 * p + 7 * h + m) % 7 = m by omega, show (14 * p + 7 * h + m) / 14 = p by omega]
  exact fCp_id yB_b.1 yB_b.2
theorem fA_FT (hn : n ≤ 240) : fArr n B 533 0 = (fW n B 0 0 0).1 := by
  have hb := fGd_b hn (fW_gd (B := B) 0 0 0 (Nat.zero_le n) (by decide)).1
  show fCp (-241) 240 (fW n B 0 0 0).1 = _
  exact fCp_id hb.1 hb.2
theorem fA_B {k g : Nat} (hk : k < 4) : fArr n B (534 + k) g = (fBt g k : Int) := by
  have hb := fBt_2 g k
  rcases (show k = 0 ∨ k = 1 ∨ k = 2 ∨ k = 3 by omega) with rfl | rfl | rfl | rfl
  · show fCp 0 1 (fBt g 0 : Int) = _
    exact fCp_id (by omega) (by omega)
  · show fCp 0 1 (fBt g 1 : Int) = _
    exact fCp_id (by omega) (by omega)
  · show fCp 0 1 (fBt g 2 : Int) = _
    exact fCp_id (by omega) (by omega)
  · show fCp 0 1 (fBt g 3 : Int) = _
    exact fCp_id (by omega) (by omega)
theorem fMV_bd (i k : Nat) : 0 ≤ fMV n B i k ∧ fMV n B i k ≤ 10 := by
  have hd : fLo 1 k ≤ fDf 1 k ∧ fDf 1 k ≤ fHi 1 k ∧ fLo 1 k = 0 ∧ fHi 1 k ≤ 10 := by
    unfold fLo fHi fDf
    simp only [Nat.one_ne_zero, if_false]
    repeat' split
    all_goals first | decide | omega | simp_all
  have := fV_lh (n := n) (B := B) 1 k 0 ((fW n B 0 0 0).2.2.1 i) hd.1 hd.2.1
  unfold fMV
  omega
theorem fA_MV {i k : Nat} (hi : i < 7) (hk : k < 4) : fArr n B 538 (4 * i + k) = fMV n B i k := by
  have hb := fMV_bd (n := n) (B := B) i k
  show fCp 0 99 (fMV n B ((4 * i + k) / 4) ((4 * i + k) % 4)) = _
  rw [show (4 * i + k) / 4 = i by omega, show (4 * i + k) % 4 = k by omega]
  exact fCp_id (by omega) (by omega)
theorem fRV_bd {k : Nat} (hk : k < 3) : (fBd 539 k).1 ≤ fRV n B k ∧ fRV n B k ≤ (fBd 539 k).2 := by
  rcases (show k = 0 ∨ k = 1 ∨ k = 2 by omega) with rfl | rfl | rfl
  · have h1 := fV_lh (n := n) (B := B) 0 0 0 ((fW n B 0 0 0).2.2.2) (v := fDf 0 0) (by decide) (by decide)
    show 4 ≤ fRV n B 0 ∧ fRV n B 0 ≤ 10
    have l1 : fLo 0 0 = 4 := rfl
    have l2 : fHi 0 0 = 10 := rfl
    rw [l1, l2] at h1
    unfold fRV
    split
    · exact ⟨by decide, by decide⟩
    · exact h1
  · have h1 := fV_lh (n := n) (B := B) 0 1 0 ((fW n B 0 0 0).2.2.2) (v := fDf 0 1) (by decide) (by decide)
    show 1 ≤ fRV n B 1 ∧ fRV n B 1 ≤ 20
    have l1 : fLo 0 1 = 1 := rfl
    have l2 : fHi 0 1 = 20 := rfl
    rw [l1, l2] at h1
    unfold fRV
    split
    · exact ⟨by decide, by decide⟩
    · exact h1
  · have h1 := fV_lh (n := n) (B := B) 0 2 0 ((fW n B 0 0 0).2.2.2) (v := fDf 0 2) (by decide) (by decide)
    show 0 ≤ fRV n B 2 ∧ fRV n B 2 ≤ 99
    have l1 : fLo 0 2 = 0 := rfl
    have l2 : fHi 0 2 = 99 := rfl
    rw [l1, l2] at h1
    unfold fRV
    split
    · exact ⟨by decide, by decide⟩
    · exact h1
theorem fA_RV {k : Nat} (hk : k < 3) : fArr n B 539 k = fRV n B k := by
  have hb := fRV_bd (n := n) (B := B) hk
  show fCp (fBd 539 k).1 (fBd 539 k).2 (fRV n B k) = _
  exact fCp_id hb.1 hb.2
theorem fA_FM : fArr n B 540 0 = ((fW n B 0 0 0).2.1 : Int) := by
  have := (fW_gd (n := n) (B := B) 0 0 0 (Nat.zero_le n) (by decide)).2
  show fCp 0 6 ((fW n B 0 0 0).2.1 : Int) = _
  exact fCp_id (by omega) (by omega)
theorem fA_WH : fArr n B 541 0 = yB (fWh n B) := by
  show fCp 0 1 (yB (fWh n B)) = _
  exact fCp_id yB_b.1 yB_b.2
theorem fA_NR {t : Nat} (ht : t ≤ n) (hn : n ≤ 240) : fArr n B 542 t = fNr n B t := by
  show fCp (-241) 240 (fNr n B t) = _
  rcases fNr_cs (B := B) ht with ⟨a1, a2, a3⟩ | ⟨e, a1, a2, a3, a4, a5⟩
  · exact fCp_id (by omega) (by omega)
  · exact fCp_id (by omega) (by omega)
theorem fA_NV {t : Nat} (h1 : 0 ≤ fNv n B t) (h2 : fNv n B t ≤ 99) : fArr n B 543 t = fNv n B t := by
  show fCp 0 99 (fNv n B t) = _
  exact fCp_id h1 h2
theorem fA_I {s j r g p v : Nat} (hr : (s = 0 ∧ r = 560 + j ∧ j < 3) ∨ (s = 1 ∧ r = 563 + j ∧ j < 4)) (hg : g < 16) (hp : p ≤ n) (hv : v < 100) : fArr n B r (1600 * p + 100 * g + v) = fV n B s j g p (v : Int) := by
  have hb := fV_bd (B := B) s j g p (v := (v : Int)) hp (by omega) (by omega)
  have e1 : (1600 * p + 100 * g + v) / 100 % 16 = g := by omega
  have e2 : (1600 * p + 100 * g + v) / 1600 = p := by omega
  have e3 : (1600 * p + 100 * g + v) % 100 = v := by omega
  rcases hr with ⟨rfl, rfl, hj⟩ | ⟨rfl, rfl, hj⟩
  · rcases (show j = 0 ∨ j = 1 ∨ j = 2 by omega) with rfl | rfl | rfl
    all_goals
      show fCp 0 99 (fV n B 0 _ ((1600 * p + 100 * g + v) / 100 % 16) ((1600 * p + 100 * g + v) / 1600) (((1600 * p + 100 * g + v) % 100 : Nat) : Int)) = _
      rw [e1, e2, e3]
      exact fCp_id hb.1 hb.2
  · rcases (show j = 0 ∨ j = 1 ∨ j = 2 ∨ j = 3 by omega) with rfl | rfl | rfl | rfl
    all_goals
      show fCp 0 99 (fV n B 1 _ ((1600 * p + 100 * g + v) / 100 % 16) ((1600 * p + 100 * g + v) / 1600) (((1600 * p + 100 * g + v) % 100 : Nat) : Int)) = _
      rw [e1, e2, e3]
      exact fCp_id hb.1 hb.2
end FFACT
section FFACT2
variable {ρ ρ0 : Nat → Int} {A : sA} {loc : zL} {h : zH}
theorem pfF (hM : sMt pReg pgv ρ ρ0 (sAs A) loc [] h) (hf : wFh h) (k r : Nat) (i : sE) (e : A.2.1[k]? = some (2, r, i)) (h1 : 530 ≤ r) (h2 : r < 567) (j : Nat) (hi : j ≤ 400000) (hj : sv ρ i = (j : Int)) : ρ k = fArr (wN h) (wB h) r j := by
  have := pPl hM k r i e (by omega) r j (pReg_g (by omega) (by omega)) hj
  rw [← this]
  exact hf r h1 h2 j hi
variable {ρx : Nat → Int} {idx val : sE}
theorem pgF (hf : wFh h) (r : Nat) (h1 : 530 ≤ r) (h2 : r < 567) (j : Nat) (hi : j ≤ 400000) (hj : sv ρx idx = (j : Int)) (hv : sv ρx val = fArr (wN h) (wB h) r j) : smm pReg pgv ρx h (r, idx, val) := by
  unfold smm
  rw [if_pos (show (r, idx, val).1 < 1000 by show r < 1000; omega)]
  refine ⟨by show 0 ≤ sv ρx idx; omega, fun c hc => ?_⟩
  have := pOne (by omega) (by omega) hc
  subst this
  show (h.1 c (sv ρx idx).toNat).toInt = sv ρx val
  rw [hj, hv]
  exact hf c h1 h2 j hi
theorem pgTl (a : Nat) (hv : pgv a h = sv ρx val) : smm pReg pgv ρx h (1000 + a, idx, val) := by
  unfold smm
  rw [if_neg (show ¬ ((1000 + a, idx, val) : Nat × sE × sE).1 < 1000 by show ¬ (1000 + a < 1000); omega)]
  show pgv (1000 + a - 1000) h = sv ρx val
  rw [Nat.add_sub_cancel_left]
  exact hv
/-- a cell alone in its region -/
theorem pgP (r c : Nat) (hr : r < 1000) (hc : pReg c = r) (hs : pSin r = true) (j : Nat) (hj : sv ρx idx = (j : Int)) (hv : sv ρx val = (h.1 c j).toInt) : smm pReg pgv ρx h (r, idx, val) := by
  unfold smm
  rw [if_pos (show (r, idx, val).1 < 1000 by exact hr)]
  refine ⟨by show 0 ≤ sv ρx idx; omega, fun k hk => ?_⟩
  have hk : pReg k = r := hk
  have := pSing c k (by rw [hc]; exact hs) (hk.trans hc.symm)
  subst this
  show (h.1 k (sv ρx idx).toNat).toInt = sv ρx val
  rw [hj, hv]
  rfl
end FFACT2
