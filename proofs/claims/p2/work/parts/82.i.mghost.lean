/-! sums of powers, bits -/
section NBS
noncomputable def nBs (f : Nat → Bool) : Nat → Nat
  | 0 => 0
  | k + 1 => nBs f k + (if f k = true then 2 ^ k else 0)
theorem nBs_lt {f : Nat → Bool} : ∀ k : Nat, nBs f k < 2 ^ k
  | 0 => by
    show 0 < 2 ^ 0
    decide
  | k + 1 => by
    have h := nBs_lt (f := f) k
    show nBs f k + (if f k = true then 2 ^ k else 0) < 2 ^ (k + 1)
    rw [Nat.pow_succ]
    split <;> omega
theorem nBs_d {f : Nat → Bool} {m : Nat} : ∀ k : Nat, m < k → nBs f k / 2 ^ m % 2 = if f m = true then 1 else 0
  | 0, h => by omega
  | k + 1, h => by
    show (nBs f k + (if f k = true then 2 ^ k else 0)) / 2 ^ m % 2 = _
    have hp : 0 < 2 ^ m := Nat.pow_pos (by decide)
    by_cases e : m = k
    · subst e
      have hl := nBs_lt (f := f) m
      by_cases hf : f m = true
      · rw [if_pos hf, if_pos hf, Nat.add_div_right _ hp, Nat.div_eq_of_lt hl]
      · rw [if_neg hf, if_neg hf, Nat.add_zero, Nat.div_eq_of_lt hl]
    · have ih := nBs_d (f := f) (m := m) k (by omega)
      by_cases hf : f k = true
      · rw [if_pos hf]
        have e2 : 2 ^ k = 2 ^ m * (2 * 2 ^ (k - m - 1)) := by
          rw [← Nat.mul_assoc, ← Nat.pow_succ, ← Nat.pow_add]
          congr 1
          omega
        rw [e2, Nat.add_mul_div_left _ _ hp, Nat.add_mul_mod_self_left]
        exact ih
      · rw [if_neg hf, Nat.add_zero]
        exact ih
theorem nBs_c {g : Nat → Int} {f : Nat → Bool} (h : ∀ j, g j = if f j = true then (2 : Int) ^ j else 0) : ∀ k : Nat, nCt g k = (nBs f k : Int)
  | 0 => rfl
  | k + 1 => by
    show nCt g k + g k = ((nBs f k + (if f k = true then 2 ^ k else 0) : Nat) : Int)
    rw [nBs_c h k, h k]
    split
    · rw [Int.natCast_add, Int.natCast_pow]
      rfl
    · rw [Nat.add_zero, Int.add_zero]
theorem b64or : ∀ m : Fin 6, ∀ a : Fin 64, a.val < 2 ^ m.val → (Int32.ofNat a.val ||| Int32.ofNat (2 ^ m.val)).toInt = ((a.val + 2 ^ m.val : Nat) : Int) := by decide +kernel
theorem b64shl : ∀ m : Fin 6, (Int32.ofNat 1 <<< (Int32.ofNat m.val &&& 31)).toInt = ((2 ^ m.val : Nat) : Int) := by decide +kernel
theorem b64shr : ∀ s : Fin 64, ∀ m : Fin 6, (Int32.ofNat s.val >>> (Int32.ofNat m.val &&& 31)).toInt = ((s.val / 2 ^ m.val : Nat) : Int) := by decide +kernel
theorem b64and : ∀ v : Fin 64, (Int32.ofNat v.val &&& Int32.ofNat 1).toInt = ((v.val % 2 : Nat) : Int) := by decide +kernel
theorem b64div : ∀ v : Fin 64, (Int32.ofNat v.val / Int32.ofNat 2).toInt = ((v.val / 2 : Nat) : Int) := by decide +kernel
theorem b1krem : ∀ v : Fin 1000, (Int32.ofNat v.val - Int32.ofNat v.val / Int32.ofNat 60 * Int32.ofNat 60).toInt = ((v.val % 60 : Nat) : Int) := by decide +kernel
theorem qk_g {r : Nat} (h1 : 500 ≤ r) (h2 : r < 900) {k : Nat} (hk : pReg k = r) : qk r = k := by
  have hs : pSin r = true := by
    unfold pSin
    rw [decide_eq_true h1, decide_eq_true h2]
    rfl
  exact pSing _ _ (by rw [hk]; exact hs) (by rw [qk_r hs, hk])
section QTB
variable {h : zH}
theorem qt_or (ht : qTab pReg h) {m a : Nat} (hm : m < 6) (ha : a < 2 ^ m) : rv h 700 (64 * 2 ^ m + a) = ((a + 2 ^ m : Nat) : Int) := by
  obtain ⟨⟨k, hk, e⟩, -⟩ := ht
  have h6 : 2 ^ m ≤ 2 ^ 5 := Nat.pow_le_pow_right (by decide) (by omega)
  have h7 : (2 : Nat) ^ 5 = 32 := rfl
  show ((h.1 (qk 700) (64 * 2 ^ m + a))).toInt = _
  rw [show 64 * 2 ^ m + a = a + 64 * 2 ^ m from Nat.add_comm _ _, qk_g (by decide) (by decide) hk, e a (2 ^ m) (by omega) (by omega)]
  exact b64or ⟨m, hm⟩ ⟨a, by omega⟩ ha
theorem qt_or2 (ht : qTab pReg h) {m a p : Nat} (hm : m < 6) (ha : a < 2 ^ m) (hp : p = 2 ^ m) : rv h 700 (64 * p + a) = ((a + p : Nat) : Int) := by
  rw [hp]
  exact qt_or ht hm ha
theorem qt_shl (ht : qTab pReg h) {m : Nat} (hm : m < 6) : rv h 701 (64 * m + 1) = ((2 ^ m : Nat) : Int) := by
  obtain ⟨-, ⟨k, hk, e⟩, -⟩ := ht
  show ((h.1 (qk 701) (64 * m + 1))).toInt = _
  rw [show 64 * m + 1 = 1 + 64 * m from Nat.add_comm _ _, qk_g (by decide) (by decide) hk, e 1 m (by omega) (by omega)]
  exact b64shl ⟨m, hm⟩
theorem qt_shr (ht : qTab pReg h) {s m : Nat} (hs : s < 64) (hm : m < 6) : rv h 702 (64 * m + s) = ((s / 2 ^ m : Nat) : Int) := by
  obtain ⟨-, -, ⟨k, hk, e⟩, -⟩ := ht
  show ((h.1 (qk 702) (64 * m + s))).toInt = _
  rw [show 64 * m + s = s + 64 * m from Nat.add_comm _ _, qk_g (by decide) (by decide) hk, e s m (by omega) (by omega)]
  exact b64shr ⟨s, hs⟩ ⟨m, hm⟩
theorem qt_and (ht : qTab pReg h) {v : Nat} (hv : v < 64) : rv h 703 (v + 64) = ((v % 2 : Nat) : Int) := by
  obtain ⟨-, -, -, ⟨k, hk, e⟩, -⟩ := ht
  show ((h.1 (qk 703) (v + 64 * 1))).toInt = _
  rw [qk_g (by decide) (by decide) hk, e v 1 (by omega) (by omega)]
  exact b64and ⟨v, hv⟩
theorem qt_div (ht : qTab pReg h) {v : Nat} (hv : v < 64) : rv h 704 (v + 20000) = ((v / 2 : Nat) : Int) := by
  obtain ⟨-, -, -, -, ⟨k, hk, e⟩, -⟩ := ht
  show ((h.1 (qk 704) (v + 10000 * 2))).toInt = _
  rw [qk_g (by decide) (by decide) hk, e v 2 (by omega) (by omega) (by omega)]
  exact b64div ⟨v, hv⟩
theorem qt_rem (ht : qTab pReg h) {v : Nat} (hv : v < 1000) : rv h 705 (v + 600000) = ((v % 60 : Nat) : Int) := by
  obtain ⟨-, -, -, -, -, ⟨k, hk, e⟩⟩ := ht
  show ((h.1 (qk 705) (v + 10000 * 60))).toInt = _
  rw [qk_g (by decide) (by decide) hk, e v 60 (by omega) (by omega) (by omega)]
  exact b1krem ⟨v, hv⟩
end QTB
theorem pw6 {m : Nat} (hm : m < 6) : 1 ≤ 2 ^ m ∧ 2 ^ m ≤ 32 := ⟨Nat.one_le_two_pow, Nat.le_trans (Nat.pow_le_pow_right (by decide) (show m ≤ 5 by omega)) (by decide)⟩
end NBS
/-! the reference's night by the same words -/
section MGHO
noncomputable def nOkF (n H : Nat) (mare hold nt : Int) (ne bd ey dm pl : Nat → Int) : Prop := 2 ≤ n ∧ n ≤ 6 ∧ 4 ≤ H ∧ H ≤ 10 ∧ (∀ m, m < n → (0 ≤ bd m ∧ bd m ≤ 9) ∧ (0 ≤ ne m ∧ ne m ≤ 10) ∧ (0 ≤ ey m ∧ ey m ≤ 12) ∧ (0 ≤ dm m ∧ dm m ≤ 18) ∧ (0 ≤ pl m ∧ pl m < (n : Int))) ∧ (∀ p : Nat, p < n → ∃ o, o < n ∧ pl o = (p : Int)) ∧ (0 ≤ nt ∧ nt ≤ 999) ∧ (-1 ≤ hold ∧ hold ≤ 3) ∧ (1 ≤ mare ∧ mare ≤ 20)
/-- what the ghosts hold -/
noncomputable def nCel (n H : Nat) (mare hold nt : Int) (ne bd ey dm pl W : Nat → Int) (g0 : Nat → Nat → Int) (h : zH) : Prop :=
  (∀ m, m < n → rv h 606 m = (nWt n pl m : Int)) ∧
  (∀ p, p < n → rv h 621 p = (nMa n pl p : Int)) ∧
  (∀ t m a, t ≤ H → m < 6 → a < 4 → rv h (610 + a) (6 * t + m) = nSt n mare hold nt ne bd ey dm pl W g0 t a m) ∧
  (∀ t m, t < H → m < n → rv h 607 (6 * t + m) = if nA n mare hold nt ne bd ey dm pl W g0 t m = true then 1 else 0) ∧
  (∀ t m, t < H → m < n → rv h 608 (6 * t + m) = nS n mare hold nt ne bd ey dm pl W g0 t m) ∧
  (∀ t m, t < H → m < n → rv h 609 (6 * t + m) = nD n mare hold nt ne bd ey dm pl W g0 t m) ∧
  (∀ k, k ≤ 6 * H → rv h 614 k = nUN n mare hold nt ne bd ey dm pl W g0 k ∧ rv h 615 k = nOP n mare hold nt ne bd ey dm pl W g0 k ∧ rv h 624 k = nMR n mare hold nt ne bd ey dm pl W g0 k) ∧
  (∀ t, t ≤ H → rv h 616 t = nQU n mare hold nt ne bd ey dm pl W g0 t) ∧
  (∀ t m, m ≤ 6 → rv h 617 (7 * t + m) = nAW n mare hold nt ne bd ey dm pl W g0 t m) ∧
  (∀ t m, t < 10 → m ≤ n → rv h 622 (7 * t + m) = nMk n mare hold nt ne bd ey dm pl W g0 t m ∧ rv h 623 (7 * t + m) = nWm n mare hold nt ne bd ey dm pl W g0 t m) ∧
  (∀ m, m ≤ n → rv h 625 m = nWB n mare hold nt ne bd ey dm pl W g0 H m)
noncomputable def nTi (n s t : Int) : Int := if s < n then (if 99 ≤ t + n - s then 99 else t + n - s) else if t = 0 then 0 else t - 1
noncomputable def nDi (d x : Int) : Int := if 9999 ≤ d + x then 9999 else d + x
/-- tired, dreamt: ahead, behind -/
noncomputable def nPas (n H : Nat) (ne : Nat → Int) (h : zH) : Prop := ∀ m, (m < n → (0 ≤ rv h 630 m ∧ rv h 630 m ≤ 99) ∧ (0 ≤ rv h 632 m ∧ rv h 632 m ≤ 9999) ∧ rv h 631 m = nTi (ne m) (rv h 610 (6 * H + m)) (rv h 630 m) ∧ rv h 633 m = nDi (rv h 632 m) (rv h 612 (6 * H + m))) ∧ (n ≤ m → m < 6 → rv h 631 m = rv h 630 m ∧ rv h 633 m = rv h 632 m)
noncomputable def mGh (h : zH) : Prop := ∃ (n H : Nat) (mare hold nt : Int) (ne bd ey dm pl : Nat → Int) (g0 : Nat → Nat → Int), rv h 120 22 = (n : Int) ∧ rv h 99 0 = (H : Int) ∧ rv h 99 1 = mare ∧ rv h 120 25 = hold ∧ rv h 101 38 = nt ∧ (∀ m, m < n → rv h 101 m = bd m ∧ rv h 101 (m + 6) = ey m ∧ rv h 101 (m + 12) = dm m ∧ rv h 101 (m + 30) = pl m ∧ rv h 100 (4 * m) = ne m) ∧ (∀ a m, m < 6 → g0 a m = if a = 1 then -1 else 0) ∧ nOkF n H mare hold nt ne bd ey dm pl ∧ nCel n H mare hold nt ne bd ey dm pl (rv h 620) g0 h ∧ nPas n H ne h ∧ (∀ t a m, t < 10 → a < 4 → n ≤ m → m < 6 → rv h (610 + a) (6 * t + m + 6) = rv h (610 + a) (6 * t + m))
/-- the class's extras -/
noncomputable def cGh (h : zH) : Prop := ∃ n H : Nat, rv h 56 0 = (n : Int) ∧ rv h 56 1 = (H : Int) ∧ n ≤ 6 ∧ (∀ m, m < n → (0 ≤ rv h 610 (6 * H + m) ∧ rv h 610 (6 * H + m) ≤ 10) ∧ (-1 ≤ rv h 611 (6 * H + m) ∧ rv h 611 (6 * H + m) < (H : Int)) ∧ (0 ≤ rv h 612 (6 * H + m) ∧ rv h 612 (6 * H + m) ≤ 200) ∧ (0 ≤ rv h 55 m ∧ rv h 55 m ≤ 10)) ∧ (∀ m, m ≤ n → rv h 625 m = (nBs (fun j => decide (rv h 611 (6 * H + j) ≠ -1)) m : Int)) ∧ nPas n H (rv h 55) h ∧ (∀ t a m, t < 10 → a < 4 → n ≤ m → m < 6 → rv h (610 + a) (6 * t + m + 6) = rv h (610 + a) (6 * t + m))
theorem nAs_cs {ne bd : Nat → Int} {S : Nat → Nat → Int} {h m : Nat} {b nn k a : Int} (hb : bd m = b) (hn : ne m = nn) (hk : S 1 m = k) (ha : a = if nAs ne bd S h m = true then 1 else 0) : (a = 1 ∧ b ≤ (h : Int) ∧ (h : Int) < b + nn ∧ k = -1) ∨ (a = 0 ∧ b ≤ (h : Int) ∧ (h : Int) < b + nn ∧ k ≠ -1) ∨ (a = 0 ∧ (h : Int) < b) ∨ (a = 0 ∧ b + nn ≤ (h : Int)) := by
  unfold nAs at ha
  rw [hb, hn, hk] at ha
  simp only [Bool.and_eq_true, decide_eq_true_eq] at ha
  by_cases z1 : b ≤ (h : Int)
  · by_cases z2 : (h : Int) < b + nn
    · by_cases z3 : k = -1
      · rw [if_pos ⟨z1, z2, z3⟩] at ha
        exact Or.inl ⟨ha, z1, z2, z3⟩
      · rw [if_neg (fun z => z3 z.2.2)] at ha
        exact Or.inr (Or.inl ⟨ha, z1, z2, z3⟩)
    · rw [if_neg (fun z => z2 z.2.1)] at ha
      exact Or.inr (Or.inr (Or.inr ⟨ha, by omega⟩))
  · rw [if_neg (fun z => z1 z.1)] at ha
    exact Or.inr (Or.inr (Or.inl ⟨ha, by omega⟩))
theorem nDr_cs {n : Nat} {hold nt : Int} {ne bd ey dm pl W : Nat → Int} {S : Nat → Nat → Int} {h m : Nat} {o d sl e f g r : Int} (ho : nSo n ne bd pl S h m = o) (hd : dm m = d) (hs : S 0 m = sl) (he : ey (nWt n pl m) = e) (hf : f = e / 2) (hg : W (nLi d sl e h (o - 1) nt).toNat = g) (hr : nDr n hold nt ne bd ey dm pl W S h m = r) (h1 : o = 1 ∨ o = 2) : ∃ v : Int, ((hold = -1 ∧ o = 1 ∧ v = d + sl) ∨ (hold = -1 ∧ o = 2 ∧ v = d + sl - f) ∨ (hold ≠ -1 ∧ v = g)) ∧ ((v < 0 ∧ r = 0) ∨ (0 ≤ v ∧ v ≤ 20 ∧ r = v) ∨ (21 ≤ v ∧ r = 20)) := by
  unfold nDr at hr
  rw [ho, hd, hs, he, hg, ← hf, if_neg (by omega)] at hr
  refine ⟨if hold = -1 then d + sl - (if o = 2 then f else 0) else g, ?_, ?_⟩
  · by_cases z : hold = -1
    · rw [if_pos z]
      rcases h1 with y | y
      · rw [if_neg (by omega)]
        exact Or.inl ⟨z, y, by omega⟩
      · rw [if_pos y]
        exact Or.inr (Or.inl ⟨z, y, rfl⟩)
    · rw [if_neg z]
      exact Or.inr (Or.inr ⟨z, rfl⟩)
  · unfold nCl at hr
    generalize (if hold = -1 then d + sl - (if o = 2 then f else 0) else g) = v at hr ⊢
    by_cases z : v < 0
    · rw [if_pos z] at hr
      exact Or.inl ⟨z, hr.symm⟩
    · rw [if_neg z] at hr
      by_cases y : 20 < v
      · rw [if_pos y] at hr
        exact Or.inr (Or.inr ⟨by omega, hr.symm⟩)
      · rw [if_neg y] at hr
        exact Or.inr (Or.inl ⟨by omega, by omega, hr.symm⟩)
theorem nMa_lt {n : Nat} {pl : Nat → Int} {p : Nat} (hp : p < n) (hq : ∀ p : Nat, p < n → ∃ o, o < n ∧ pl o = (p : Int)) : pl (nMa n pl p) = (p : Int) ∧ nMa n pl p < n ∧ ∀ j, j < nMa n pl p → pl j ≠ (p : Int) := by
  obtain ⟨o, o1, o2⟩ := hq p hp
  obtain ⟨a, b, _, d⟩ := nFst_ok (f := fun o => decide (pl o = (p : Int))) n 0 (Nat.zero_le o) (by omega) (decide_eq_true o2)
  exact ⟨of_decide_eq_true a, Nat.lt_of_le_of_lt b o1, fun j hj => of_decide_eq_false (d j (Nat.zero_le j) hj)⟩
section MGN
variable {n : Nat} {mare hold nt : Int} {ne bd ey dm pl W : Nat → Int} {g0 : Nat → Nat → Int}
theorem nS0 (hg : ∀ a m, m < 6 → g0 a m = if a = 1 then -1 else 0) {a m : Nat} (hm : m < 6) : nSt n mare hold nt ne bd ey dm pl W g0 0 a m = if a = 1 then -1 else 0 := by
  show (if m < n then (if a = 1 then -1 else 0) else g0 a m) = _
  split
  · rfl
  · exact hg a m hm
theorem nMk_b (t m : Nat) : nMk n mare hold nt ne bd ey dm pl W g0 t m = (nBs (nA n mare hold nt ne bd ey dm pl W g0 t) m : Int) := nBs_c (fun _ => rfl) m
theorem nWm_b (t m : Nat) : nWm n mare hold nt ne bd ey dm pl W g0 t m = (nBs (fun j => decide (nS n mare hold nt ne bd ey dm pl W g0 t j = 2)) m : Int) := nBs_c (fun j => by simp only [decide_eq_true_eq]) m
theorem nWB_b (t m : Nat) : nWB n mare hold nt ne bd ey dm pl W g0 t m = (nBs (fun j => decide (nSt n mare hold nt ne bd ey dm pl W g0 t 1 j ≠ -1)) m : Int) := nBs_c (fun j => by
  simp only [decide_eq_true_eq]
  by_cases z : nSt n mare hold nt ne bd ey dm pl W g0 t 1 j = -1
  · rw [if_pos z, if_neg (fun y => y z)]
  · rw [if_neg z, if_pos z]) m
/-- who sleeps, how: masks, counts -/
theorem nQm (t : Nat) : ∀ m : Nat, m ≤ n → n ≤ 6 → ((nMk n mare hold nt ne bd ey dm pl W g0 t m = nWm n mare hold nt ne bd ey dm pl W g0 t m ∧ nUN n mare hold nt ne bd ey dm pl W g0 (6 * t + m) = nUN n mare hold nt ne bd ey dm pl W g0 (6 * t)) ∨ (nWm n mare hold nt ne bd ey dm pl W g0 t m < nMk n mare hold nt ne bd ey dm pl W g0 t m ∧ nUN n mare hold nt ne bd ey dm pl W g0 (6 * t) < nUN n mare hold nt ne bd ey dm pl W g0 (6 * t + m))) ∧ ((nWm n mare hold nt ne bd ey dm pl W g0 t m = 0 ∧ nAW n mare hold nt ne bd ey dm pl W g0 t m = 0) ∨ (1 ≤ nWm n mare hold nt ne bd ey dm pl W g0 t m ∧ nAW n mare hold nt ne bd ey dm pl W g0 t m = 1))
  | 0, _, _ => ⟨Or.inl ⟨rfl, rfl⟩, Or.inl ⟨rfl, rfl⟩⟩
  | m + 1, hm, hn => by
    obtain ⟨i1, i2⟩ := nQm t m (by omega) hn
    have hp : (1 : Int) ≤ 2 ^ m := by
      have := Nat.one_le_two_pow (n := m)
      have e : ((2 ^ m : Nat) : Int) = (2 : Int) ^ m := Int.natCast_pow 2 m
      omega
    have eM : nMk n mare hold nt ne bd ey dm pl W g0 t (m + 1) = nMk n mare hold nt ne bd ey dm pl W g0 t m + (if nA n mare hold nt ne bd ey dm pl W g0 t m = true then (2 : Int) ^ m else 0) := rfl
    have eW : nWm n mare hold nt ne bd ey dm pl W g0 t (m + 1) = nWm n mare hold nt ne bd ey dm pl W g0 t m + (if nS n mare hold nt ne bd ey dm pl W g0 t m = 2 then (2 : Int) ^ m else 0) := rfl
    have eA : nAW n mare hold nt ne bd ey dm pl W g0 t (m + 1) = if nS n mare hold nt ne bd ey dm pl W g0 t m = 2 then 1 else nAW n mare hold nt ne bd ey dm pl W g0 t m := rfl
    have eU : nUN n mare hold nt ne bd ey dm pl W g0 (6 * t + (m + 1)) = nUN n mare hold nt ne bd ey dm pl W g0 (6 * t + m) + (if m < n ∧ nS n mare hold nt ne bd ey dm pl W g0 t m = 1 then 1 else 0) := by
      show nCt _ (6 * t + m) + (if (6 * t + m) % 6 < n ∧ nS n mare hold nt ne bd ey dm pl W g0 ((6 * t + m) / 6) ((6 * t + m) % 6) = 1 then 1 else 0) = _
      rw [show (6 * t + m) % 6 = m by omega, show (6 * t + m) / 6 = t by omega]
      rfl
    rw [eM, eW, eA, eU]
    rcases nSo_b (n := n) (ne := ne) (bd := bd) (pl := pl) (S := nSt n mare hold nt ne bd ey dm pl W g0 t) (h := t) (m := m) with ⟨z1, z2⟩ | ⟨z1, -, z2⟩ | ⟨z1, -, z2⟩
    · rw [if_neg (by rw [show nA n mare hold nt ne bd ey dm pl W g0 t m = false from z1]; decide), if_neg (show ¬ nS n mare hold nt ne bd ey dm pl W g0 t m = 2 by rw [show nS n mare hold nt ne bd ey dm pl W g0 t m = 0 from z2]; decide), if_neg (show ¬ nS n mare hold nt ne bd ey dm pl W g0 t m = 2 by rw [show nS n mare hold nt ne bd ey dm pl W g0 t m = 0 from z2]; decide), if_neg (show ¬ (m < n ∧ nS n mare hold nt ne bd ey dm pl W g0 t m = 1) by rw [show nS n mare hold nt ne bd ey dm pl W g0 t m = 0 from z2]; exact fun y => absurd y.2 (by decide))]
      refine ⟨?_, ?_⟩ <;> omega
    · rw [if_pos (show nA n mare hold nt ne bd ey dm pl W g0 t m = true from z1), if_pos (show nS n mare hold nt ne bd ey dm pl W g0 t m = 2 from z2), if_pos (show nS n mare hold nt ne bd ey dm pl W g0 t m = 2 from z2), if_neg (show ¬ (m < n ∧ nS n mare hold nt ne bd ey dm pl W g0 t m = 1) by rw [show nS n mare hold nt ne bd ey dm pl W g0 t m = 2 from z2]; exact fun y => absurd y.2 (by decide))]
      refine ⟨?_, ?_⟩ <;> omega
    · rw [if_pos (show nA n mare hold nt ne bd ey dm pl W g0 t m = true from z1), if_neg (show ¬ nS n mare hold nt ne bd ey dm pl W g0 t m = 2 by rw [show nS n mare hold nt ne bd ey dm pl W g0 t m = 1 from z2]; decide), if_neg (show ¬ nS n mare hold nt ne bd ey dm pl W g0 t m = 2 by rw [show nS n mare hold nt ne bd ey dm pl W g0 t m = 1 from z2]; decide), if_pos (show m < n ∧ nS n mare hold nt ne bd ey dm pl W g0 t m = 1 from ⟨by omega, z2⟩)]
      refine ⟨?_, ?_⟩ <;> omega
end MGN
theorem qfr {gv : Nat → Int → Int → zH → Prop} {ρ : Nat → Int} {h : zH} {r : Nat} {ix v : sE} (hr : r < 1000) (hs : pSin r = true) {p : Nat} (hp : sv ρ ix = (p : Int)) (hv : rv h r p = sv ρ v) : smmQ pReg gv ρ h (r, ix, v) := by
  refine qfc hr (by rw [hp]; omega) (fun k hk => ?_)
  have e : qk r = k := pSing _ _ (by rw [hk]; exact hs) (by rw [qk_r hs, hk])
  rw [hp, ← hv]
  show yv h k p = rv h r p
  unfold rv
  rw [e]
end MGHO
/-! agreements, by places -/
section QAGE
variable {h : zH} {n r g l s b t kk : Nat} {x y : Int}
theorem qag_g (hq : qag pReg h n x y) (hg : agG n = g) (h1 : 500 ≤ g) (h2 : g < 900) : ∀ k, pReg k = agR n → ∀ i : Int, aFr n x ≤ i → i < aTo n y → h.1 k (agL n + agS n * aRw n x y + i).toNat = h.1 g (agB n + agT n * aRw n x y + i).toNat := by
  obtain ⟨-, -, kg, hk, e⟩ := hq
  have e2 : kg = g := by
    have hs : pSin g = true := by
      unfold pSin
      rw [decide_eq_true h1, decide_eq_true h2]
      rfl
    exact (pSing g kg (by rw [pReg_g h1 h2]; exact hs) (by rw [hk, hg, pReg_g h1 h2]))
  subst e2
  exact e
/-- a row's first places by one row of ghosts, the others by another that is alike there -/
theorem qag_core {n1 n2 : Nat} {x1 y1 x2 : Int} (hq1 : qag pReg h n1 x1 y1) (hq2 : qag pReg h n2 y1 x2) (hh : agR n2 = agR n1 ∧ agL n2 = agL n1 ∧ agS n1 = 0 ∧ agS n2 = 0 ∧ agK n1 = 0 ∧ agK n2 = 6 ∧ 600 ≤ agG n1 ∧ agG n1 < 900 ∧ 600 ≤ agG n2 ∧ agG n2 < 900) (he : ∀ i : Int, y1 ≤ i → i < 6 → h.1 (agG n2) (agB n2 + agT n2 * x2 + i).toNat = h.1 (agG n1) (agB n1 + agT n1 * x1 + i).toNat) : ∀ k, pReg k = agR n1 → ∀ i : Int, 0 ≤ i → i < 6 → h.1 k (agL n1 + i).toNat = h.1 (agG n1) (agB n1 + agT n1 * x1 + i).toNat := by
  obtain ⟨r2, l2, s1, s2, k1, k2, g1, g1', g2, g2'⟩ := hh
  have p1 := qag_g hq1 rfl (by omega) g1'
  have p2 := qag_g hq2 rfl (by omega) g2'
  have f1 : aFr n1 x1 = 0 := if_pos k1
  have w1 : aRw n1 x1 y1 = x1 := if_pos k1
  have u1 : aTo n1 y1 = y1 := if_pos k1
  have k2' : ¬ agK n2 = 0 := by omega
  have f2 : aFr n2 y1 = y1 := if_neg k2'
  have w2 : aRw n2 y1 x2 = x2 := if_neg k2'
  have u2 : aTo n2 x2 = 6 := (if_neg k2').trans (by rw [k2]; rfl)
  rw [f1, w1, u1] at p1
  rw [f2, w2, u2] at p2
  intro k hk i i1 i2
  rcases Int.lt_or_le i y1 with z | z
  · have := p1 k hk i i1 z
    rw [s1, Int.zero_mul, Int.add_zero] at this
    exact this
  · have := p2 k (by rw [hk, r2]) i z i2
    rw [s2, Int.zero_mul, Int.add_zero, l2] at this
    rw [← he i z i2]
    exact this
theorem qag_suf {n1 n3 : Nat} {x1 : Int} (hc : ∀ k, pReg k = agR n1 → ∀ i : Int, 0 ≤ i → i < 6 → h.1 k (agL n1 + i).toNat = h.1 (agG n1) (agB n1 + agT n1 * x1 + i).toNat) (hh : agR n3 = agR n1 ∧ agL n3 = agL n1 ∧ agS n3 = 0 ∧ agK n3 = 6 ∧ agG n3 = agG n1 ∧ agB n3 = agB n1 ∧ agT n3 = agT n1 ∧ 600 ≤ agG n1 ∧ agG n1 < 900 ∧ 0 ≤ agL n1 ∧ 0 ≤ agB n1 ∧ 0 ≤ agT n1) (hx : 0 ≤ x1) : qag pReg h n3 0 x1 := by
  obtain ⟨r, l, s, k3, g, b, t, g1, g2, l0, b0, t0⟩ := hh
  have k' : ¬ agK n3 = 0 := by omega
  have f : aFr n3 0 = 0 := if_neg k'
  have w : aRw n3 0 x1 = x1 := if_neg k'
  have u : aTo n3 x1 = 6 := (if_neg k').trans (by rw [k3]; rfl)
  have m := Int.mul_nonneg t0 hx
  refine ⟨by rw [f, l, s]; omega, by rw [f, w, b, t]; omega, agG n1, (pReg_g (by omega) g2).trans g.symm, fun k hk i i1 i2 => ?_⟩
  rw [f] at i1
  rw [u] at i2
  rw [w, l, s, b, t, Int.zero_mul, Int.add_zero]
  exact hc k (hk.trans r) i i1 i2
theorem qag_pre {n1 : Nat} {x1 : Int} (hc : ∀ k, pReg k = agR n1 → ∀ i : Int, 0 ≤ i → i < 6 → h.1 k (agL n1 + i).toNat = h.1 (agG n1) (agB n1 + agT n1 * x1 + i).toNat) (hh : agS n1 = 0 ∧ agK n1 = 0 ∧ 600 ≤ agG n1 ∧ agG n1 < 900 ∧ 0 ≤ agL n1 ∧ 0 ≤ agB n1 ∧ 0 ≤ agT n1) (hx : 0 ≤ x1) : qag pReg h n1 x1 6 := by
  obtain ⟨s, k3, g1, g2, l0, b0, t0⟩ := hh
  have f : aFr n1 x1 = 0 := if_pos k3
  have w : aRw n1 x1 6 = x1 := if_pos k3
  have u : aTo n1 6 = 6 := if_pos k3
  have m := Int.mul_nonneg t0 hx
  refine ⟨by rw [f, s]; omega, by rw [f, w]; omega, agG n1, pReg_g (by omega) g2, fun k hk i i1 i2 => ?_⟩
  rw [f] at i1
  rw [u] at i2
  rw [w, s, Int.zero_mul, Int.add_zero]
  exact hc k hk i i1 i2
end QAGE
