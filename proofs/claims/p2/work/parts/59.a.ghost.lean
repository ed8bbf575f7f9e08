/-! what is told of the reference's heap -/
noncomputable def yB (p : Prop) : Int := @ite Int p (Classical.propDecidable p) 1 0
theorem yB_1 {p : Prop} : yB p = 1 ↔ p := by
  unfold yB
  by_cases h : p
  · rw [if_pos h]
    exact ⟨fun _ => h, fun _ => rfl⟩
  · rw [if_neg h]
    exact ⟨fun e => absurd e (by decide), fun e => absurd e h⟩
theorem yB_c {p q : Prop} (h : p ↔ q) : yB p = yB q := by rw [propext h]
noncomputable def yv (h : zH) (c i : Nat) : Int := (h.1 c i).toInt
/-- the code's and the values' places -/
noncomputable def yco (h : zH) (i : Nat) : Int := if i < 2600 then yv h 408 i else 0
noncomputable def yva (h : zH) (i : Nat) : Int := if i < 2600 then yv h 409 i else 0
noncomputable def yd (c : Int) : Int := if c = 0 ∨ c = 1 then 1 else if c = 9 then 0 else -1
/-- the height behind n steps from b on -/
noncomputable def yht (h : zH) (b : Nat) : Nat → Int
  | 0 => 0
  | n + 1 => yht h b n + yd (yco h (b + n))
/-- a step c with value v may be done at height H -/
noncomputable def yst (c v H : Int) : Prop := (c = 0 ∧ 0 ≤ H ∧ H ≤ 79) ∨ (c = 1 ∧ 0 ≤ H ∧ H ≤ 79 ∧ 0 ≤ v ∧ v ≤ 5) ∨ (c = 9 ∧ 1 ≤ H ∧ H ≤ 80) ∨ (2 ≤ c ∧ c ≤ 11 ∧ c ≠ 9 ∧ 2 ≤ H ∧ H ≤ 80)
noncomputable def ywf (h : zH) (b n : Nat) : Prop := ∀ j, j < n → yst (yco h (b + j)) (yva h (b + j)) (yht h b j)
/-- clause c of row n is well-formed, and ends at st -/
noncomputable def ycl (h : zH) (n c e : Nat) : Prop := ∃ tf sf st : Nat, yv h 412 (140 * n + c) = tf ∧ yv h 413 (140 * n + c) = sf ∧ yv h 414 (140 * n + c) = st ∧ tf ≤ sf ∧ sf ≤ st ∧ st ≤ e ∧ ywf h (520 * n + tf) (sf - tf) ∧ ywf h (520 * n + sf) (st - sf)
noncomputable def ylw (h : zH) (n : Nat) : Prop := ∃ k : Nat, yv h 411 n = k ∧ k ≤ 140 ∧ ∀ c, c < k → ycl h n c 520
noncomputable def yls (h : zH) (m : Int) : Prop := ∀ n : Nat, n < 5 → (n : Int) < m → ylw h n
/-- the men's places are 0 .. men - 1 -/
noncomputable def ypm (h : zH) (c b : Nat) : Prop := ∀ s : Nat, s < 6 → (s : Int) < yv h 440 22 → ∃ d : Nat, d < 6 ∧ (d : Int) < yv h 440 22 ∧ yv h c (b + 30 + d) = s
noncomputable def yG4 (h : zH) : Prop := yv h 440 25 < yv h 440 13 ∧ yls h (yv h 440 13)
noncomputable def yG12 (h : zH) : Prop := yG4 h ∧ yv h 440 13 ≤ yv h 440 14
noncomputable def yG9 (h : zH) : Prop := yv h 440 25 ≤ yv h 440 14 ∧ yls h (yv h 440 14 + 1)
noncomputable def yG11 (h : zH) : Prop := ∃ t k e : Nat, t < 5 ∧ yv h 440 14 = t ∧ yv h 411 t = k ∧ k ≤ 140 ∧ yv h 410 t = e ∧ e ≤ 520 ∧ ∀ c, c < k → ycl h t c e
noncomputable def yG5 (h : zH) : Prop := ypm h 421 0
noncomputable def yG6 (h : zH) : Prop := ∀ a : Nat, a < 40 → (a : Int) < yv h 440 39 → ypm h 429 (220 * a) ∧ (∀ d, d < 6 → 0 ≤ yv h 429 (220 * a + 30 + d) ∧ yv h 429 (220 * a + 30 + d) ≤ 5) ∧ 0 ≤ yv h 429 (220 * a + 39) ∧ yv h 429 (220 * a + 39) ≤ 60
noncomputable def yG7 (h : zH) : Prop := yv h 440 55 = 0 ∨ ypm h 439 0
noncomputable def yG1 (t s : Nat) (h : zH) : Prop := yv h 440 14 = t ∧ (s : Int) ≤ yv h 410 t ∧ ywf h (520 * t + s) (yv h 410 t - s).toNat
noncomputable def yG8 (t s : Nat) (c0 v0 : Nat → Int) (h : zH) : Prop := yv h 440 14 = t ∧ (s : Int) ≤ yv h 410 t ∧ ∀ i, i < 2600 → (i < 520 * t + s ∨ 520 * t + 520 ≤ i) → yv h 408 i = c0 i ∧ yv h 409 i = v0 i
noncomputable def ysm (h : zH) : Nat → Int32
  | 0 => 0
  | n + 1 => ysm h n + h.1 421 (6 + n)
noncomputable def ybw (ar : Nat → Int32) (k : Nat) : Int32 := if k < 4 then ar 0 else if k < 8 then ar 1 else if k < 12 then ar 2 else if k < 16 then ar 3 else ar 4
noncomputable def yby (ar : Nat → Int32) (k : Nat) : Int32 := (ybw ar k >>> (Int32.ofNat (24 - 8 * (k % 4)) &&& 31)) &&& 255
/-- what is told, by numbers: t, s a mark in the code and c0, v0 the code at that hour, ar five ints -/
noncomputable def yGv (t s : Nat) (c0 v0 : Nat → Int) (ar : Nat → Int32) (a : Nat) (h : zH) : Int :=
  if a = 0 then yht h (520 * t + s) (yv h 410 t - s).toNat else if a = 1 then yB (yG1 t s h) else if a = 8 then yB (yG8 t s c0 v0 h)
  else if a = 4 then yB (yG4 h) else if a = 12 then yB (yG12 h) else if a = 9 then yB (yG9 h) else if a = 11 then yB (yG11 h)
  else if a = 5 then yB (yG5 h) else if a = 6 then yB (yG6 h) else if a = 7 then yB (yG7 h)
  else if a = 40 then (ysm h (min 6 (yv h 440 22).toNat)).toInt
  else if 15 ≤ a ∧ a < 20 then (ar (a - 15)).toInt else if 20 ≤ a ∧ a < 40 then (if yby ar (a - 20) = 0 then 0 else 1) else 0
theorem yht_c {h h' : zH} (e : ∀ i, yco h i = yco h' i) (b : Nat) : ∀ n, yht h b n = yht h' b n
  | 0 => rfl
  | n + 1 => by
    show yht h b n + yd (yco h (b + n)) = yht h' b n + yd (yco h' (b + n))
    rw [yht_c e b n, e]
theorem ywf_c {h h' : zH} (e : ∀ i, yco h i = yco h' i) (f : ∀ i, yva h i = yva h' i) (b n : Nat) : ywf h b n ↔ ywf h' b n := by
  unfold ywf
  constructor
  · intro H j hj
    have := H j hj
    rw [e, f, yht_c e] at this
    exact this
  · intro H j hj
    have := H j hj
    rw [← e, ← f, ← yht_c e] at this
    exact this
theorem ycl_c {h h' : zH} (e : ∀ i, yco h i = yco h' i) (f : ∀ i, yva h i = yva h' i) {n c : Nat} (e2 : yv h 412 (140 * n + c) = yv h' 412 (140 * n + c)) (e3 : yv h 413 (140 * n + c) = yv h' 413 (140 * n + c)) (e4 : yv h 414 (140 * n + c) = yv h' 414 (140 * n + c)) (q : Nat) : ycl h n c q ↔ ycl h' n c q := by
  unfold ycl
  rw [e2, e3, e4]
  constructor
  · rintro ⟨tf, sf, st, a1, a2, a3, a4, a5, a6, a7, a8⟩
    exact ⟨tf, sf, st, a1, a2, a3, a4, a5, a6, (ywf_c e f _ _).mp a7, (ywf_c e f _ _).mp a8⟩
  · rintro ⟨tf, sf, st, a1, a2, a3, a4, a5, a6, a7, a8⟩
    exact ⟨tf, sf, st, a1, a2, a3, a4, a5, a6, (ywf_c e f _ _).mpr a7, (ywf_c e f _ _).mpr a8⟩
theorem ylw_c {h h' : zH} (e : ∀ i, yco h i = yco h' i) (f : ∀ i, yva h i = yva h' i) {n : Nat} (e1 : yv h 411 n = yv h' 411 n) (e2 : ∀ i, i < 140 → yv h 412 (140 * n + i) = yv h' 412 (140 * n + i) ∧ yv h 413 (140 * n + i) = yv h' 413 (140 * n + i) ∧ yv h 414 (140 * n + i) = yv h' 414 (140 * n + i)) : ylw h n ↔ ylw h' n := by
  unfold ylw
  rw [e1]
  constructor
  · rintro ⟨k, a, b, c⟩
    exact ⟨k, a, b, fun i hi => (ycl_c e f (e2 i (by omega)).1 (e2 i (by omega)).2.1 (e2 i (by omega)).2.2 _).mp (c i hi)⟩
  · rintro ⟨k, a, b, c⟩
    exact ⟨k, a, b, fun i hi => (ycl_c e f (e2 i (by omega)).1 (e2 i (by omega)).2.1 (e2 i (by omega)).2.2 _).mpr (c i hi)⟩
theorem ypm_c {h h' : zH} {c b : Nat} (e : yv h 440 22 = yv h' 440 22) (f : ∀ d, d < 6 → yv h c (b + 30 + d) = yv h' c (b + 30 + d)) : ypm h c b ↔ ypm h' c b := by
  unfold ypm
  rw [e]
  constructor
  · intro H s h1 h2
    obtain ⟨d, a1, a2, a3⟩ := H s h1 h2
    exact ⟨d, a1, a2, (f d a1).symm.trans a3⟩
  · intro H s h1 h2
    obtain ⟨d, a1, a2, a3⟩ := H s h1 h2
    exact ⟨d, a1, a2, (f d a1).trans a3⟩
theorem ysm_c {h h' : zH} : ∀ n, n ≤ 6 → (∀ d, d < 6 → h.1 421 (6 + d) = h'.1 421 (6 + d)) → ysm h n = ysm h' n
  | 0, _, _ => rfl
  | n + 1, hn, f => by
    show ysm h n + h.1 421 (6 + n) = ysm h' n + h'.1 421 (6 + n)
    rw [ysm_c n (by omega) f, f n (by omega)]
/-- heaps that agree on a told quantity's places -/
noncomputable def yag (a : Nat) (h h' : zH) : Prop := ∀ k i : Nat, (∃ z ∈ yGu a, yReg k = z.1 ∧ z.2.1 ≤ (i : Int) ∧ (i : Int) ≤ z.2.2) → h.1 k i = h'.1 k i
theorem yag_e {a k r : Nat} {lo hi : Int} {h h' : zH} (H : yag a h h') (hz : (r, lo, hi) ∈ yGu a) (hr : yReg k = r) {i : Nat} (h1 : lo ≤ (i : Int)) (h2 : (i : Int) ≤ hi) : h.1 k i = h'.1 k i := H k i ⟨_, hz, hr, h1, h2⟩
theorem yag_v {a k r : Nat} {lo hi : Int} {h h' : zH} (H : yag a h h') (hz : (r, lo, hi) ∈ yGu a) (hr : yReg k = r) {i : Nat} (h1 : lo ≤ (i : Int)) (h2 : (i : Int) ≤ hi) : yv h k i = yv h' k i := by
  unfold yv
  rw [yag_e H hz hr h1 h2]
theorem yag_co {a : Nat} {h h' : zH} (H : yag a h h') (hz : (88, 0, 2599) ∈ yGu a) (i : Nat) : yco h i = yco h' i := by
  unfold yco
  split
  · exact yag_v H hz (by decide +kernel) (by omega) (by omega)
  · rfl
theorem yag_va {a : Nat} {h h' : zH} (H : yag a h h') (hz : (89, 0, 2599) ∈ yGu a) (i : Nat) : yva h i = yva h' i := by
  unfold yva
  split
  · exact yag_v H hz (by decide +kernel) (by omega) (by omega)
  · rfl
theorem yag_lw {a : Nat} {h h' : zH} (H : yag a h h') (z1 : (88, 0, 2599) ∈ yGu a) (z2 : (89, 0, 2599) ∈ yGu a) (z3 : (91, 0, 4) ∈ yGu a) (z4 : (92, 0, 699) ∈ yGu a) (z5 : (93, 0, 699) ∈ yGu a) (z6 : (94, 0, 699) ∈ yGu a) {n : Nat} (hn : n < 5) : ylw h n ↔ ylw h' n :=
  ylw_c (yag_co H z1) (yag_va H z2) (yag_v H z3 (by decide +kernel) (by omega) (by omega)) (fun i hi => ⟨yag_v H z4 (by decide +kernel) (by omega) (by omega), yag_v H z5 (by decide +kernel) (by omega) (by omega), yag_v H z6 (by decide +kernel) (by omega) (by omega)⟩)
theorem yls_c {h h' : zH} {m : Int} (e : ∀ n : Nat, n < 5 → (ylw h n ↔ ylw h' n)) : yls h m ↔ yls h' m := by
  unfold yls
  constructor
  · intro H n h1 h2
    exact (e n h1).mp (H n h1 h2)
  · intro H n h1 h2
    exact (e n h1).mpr (H n h1 h2)
theorem yGvOk {t s : Nat} (ht : t < 5) {c0 v0 : Nat → Int} {ar : Nat → Int32} : sGv yReg yGu (yGv t s c0 v0 ar) := by
  intro a h h' H
  have H : yag a h h' := H
  unfold yGv
  by_cases q : a = 0
  · subst q
    rw [if_pos rfl, if_pos rfl, yag_v (k := 410) (i := t) H (r := 90) (lo := 0) (hi := 4) (by decide +kernel) (by decide +kernel) (by omega) (by omega), yht_c (yag_co H (by decide +kernel))]
  rw [if_neg q, if_neg q]
  clear q
  by_cases q : a = 1
  · subst q
    rw [if_pos rfl, if_pos rfl]
    refine yB_c ?_
    unfold yG1
    rw [yag_v (k := 410) (i := t) H (r := 90) (lo := 0) (hi := 4) (by decide +kernel) (by decide +kernel) (by omega) (by omega), yag_v (k := 440) (i := 14) H (r := 120) (lo := 14) (hi := 14) (by decide +kernel) (by decide +kernel) (by omega) (by omega), ywf_c (yag_co H (by decide +kernel)) (yag_va H (by decide +kernel))]
  rw [if_neg q, if_neg q]
  clear q
  by_cases q : a = 8
  · subst q
    rw [if_pos rfl, if_pos rfl]
    refine yB_c ?_
    unfold yG8
    rw [yag_v (k := 440) (i := 14) H (r := 120) (lo := 14) (hi := 14) (by decide +kernel) (by decide +kernel) (by omega) (by omega), yag_v (k := 410) (i := t) H (r := 90) (lo := 0) (hi := 4) (by decide +kernel) (by decide +kernel) (by omega) (by omega)]
    refine and_congr Iff.rfl (and_congr Iff.rfl (forall_congr' fun i => forall_congr' fun hi => ?_))
    rw [yag_v (k := 408) (i := i) H (r := 88) (lo := 0) (hi := 2599) (by decide +kernel) (by decide +kernel) (by omega) (by omega), yag_v (k := 409) (i := i) H (r := 89) (lo := 0) (hi := 2599) (by decide +kernel) (by decide +kernel) (by omega) (by omega)]
  rw [if_neg q, if_neg q]
  clear q
  by_cases q : a = 4
  · subst q
    rw [if_pos rfl, if_pos rfl]
    refine yB_c ?_
    unfold yG4
    rw [yag_v (k := 440) (i := 25) H (r := 120) (lo := 25) (hi := 25) (by decide +kernel) (by decide +kernel) (by omega) (by omega), yag_v (k := 440) (i := 13) H (r := 120) (lo := 13) (hi := 13) (by decide +kernel) (by decide +kernel) (by omega) (by omega), yls_c (fun n hn => yag_lw H (by decide +kernel) (by decide +kernel) (by decide +kernel) (by decide +kernel) (by decide +kernel) (by decide +kernel) hn)]
  rw [if_neg q, if_neg q]
  clear q
  by_cases q : a = 12
  · subst q
    rw [if_pos rfl, if_pos rfl]
    refine yB_c ?_
    unfold yG12 yG4
    rw [yag_v (k := 440) (i := 25) H (r := 120) (lo := 25) (hi := 25) (by decide +kernel) (by decide +kernel) (by omega) (by omega), yag_v (k := 440) (i := 13) H (r := 120) (lo := 13) (hi := 13) (by decide +kernel) (by decide +kernel) (by omega) (by omega), yag_v (k := 440) (i := 14) H (r := 120) (lo := 14) (hi := 14) (by decide +kernel) (by decide +kernel) (by omega) (by omega), yls_c (fun n hn => yag_lw H (by decide +kernel) (by decide +kernel) (by decide +kernel) (by decide +kernel) (by decide +kernel) (by decide +kernel) hn)]
  rw [if_neg q, if_neg q]
  clear q
  by_cases q : a = 9
  · subst q
    rw [if_pos rfl, if_pos rfl]
    refine yB_c ?_
    unfold yG9
    rw [yag_v (k := 440) (i := 25) H (r := 120) (lo := 25) (hi := 25) (by decide +kernel) (by decide +kernel) (by omega) (by omega), yag_v (k := 440) (i := 14) H (r := 120) (lo := 14) (hi := 14) (by decide +kernel) (by decide +kernel) (by omega) (by omega), yls_c (fun n hn => yag_lw H (by decide +kernel) (by decide +kernel) (by decide +kernel) (by decide +kernel) (by decide +kernel) (by decide +kernel) hn)]
  rw [if_neg q, if_neg q]
  clear q
  by_cases q : a = 11
  · subst q
    rw [if_pos rfl, if_pos rfl]
    refine yB_c ?_
    have key : ∀ g g' : zH, yag 11 g g' → yG11 g → yG11 g' := by
      intro g g' H
      rintro ⟨u, k, e, a1, a2, a3, a4, a5, a6, a7⟩
      refine ⟨u, k, e, a1, ?_, ?_, a4, ?_, a6, ?_⟩
      · rw [← yag_v (k := 440) (i := 14) H (r := 120) (lo := 14) (hi := 14) (by decide +kernel) (by decide +kernel) (by omega) (by omega)]
        exact a2
      · rw [← yag_v (k := 411) (i := u) H (r := 91) (lo := 0) (hi := 4) (by decide +kernel) (by decide +kernel) (by omega) (by omega)]
        exact a3
      · rw [← yag_v (k := 410) (i := u) H (r := 90) (lo := 0) (hi := 4) (by decide +kernel) (by decide +kernel) (by omega) (by omega)]
        exact a5
      · intro c hc
        exact (ycl_c (yag_co H (by decide +kernel)) (yag_va H (by decide +kernel)) (yag_v H (r := 92) (lo := 0) (hi := 699) (by decide +kernel) (by decide +kernel) (by omega) (by omega)) (yag_v H (r := 93) (lo := 0) (hi := 699) (by decide +kernel) (by decide +kernel) (by omega) (by omega)) (yag_v H (r := 94) (lo := 0) (hi := 699) (by decide +kernel) (by decide +kernel) (by omega) (by omega)) _).mp (a7 c hc)
    exact ⟨key h h' H, key h' h (fun k i hz => (H k i hz).symm)⟩
  rw [if_neg q, if_neg q]
  clear q
  by_cases q : a = 5
  · subst q
    rw [if_pos rfl, if_pos rfl]
    refine yB_c (ypm_c (yag_v (k := 440) (i := 22) H (r := 120) (lo := 22) (hi := 22) (by decide +kernel) (by decide +kernel) (by omega) (by omega)) (fun d hd => yag_v H (r := 101) (lo := 30) (hi := 35) (by decide +kernel) (by decide +kernel) (by omega) (by omega)))
  rw [if_neg q, if_neg q]
  clear q
  by_cases q : a = 6
  · subst q
    rw [if_pos rfl, if_pos rfl]
    refine yB_c ?_
    unfold yG6
    rw [yag_v (k := 440) (i := 39) H (r := 120) (lo := 39) (hi := 39) (by decide +kernel) (by decide +kernel) (by omega) (by omega)]
    refine forall_congr' fun a => forall_congr' fun ha => forall_congr' fun _ => ?_
    have hv : ∀ i : Nat, i < 8800 → yv h 429 i = yv h' 429 i := fun i hi => yag_v H (r := 109) (lo := 0) (hi := 8799) (by decide +kernel) (by decide +kernel) (by omega) (by omega)
    rw [ypm_c (yag_v (k := 440) (i := 22) H (r := 120) (lo := 22) (hi := 22) (by decide +kernel) (by decide +kernel) (by omega) (by omega)) (fun d hd => hv (220 * a + 30 + d) (by omega)), hv (220 * a + 39) (by omega)]
    refine and_congr Iff.rfl (and_congr (forall_congr' fun d => forall_congr' fun hd => ?_) Iff.rfl)
    rw [hv (220 * a + 30 + d) (by omega)]
  rw [if_neg q, if_neg q]
  clear q
  by_cases q : a = 7
  · subst q
    rw [if_pos rfl, if_pos rfl]
    refine yB_c ?_
    unfold yG7
    rw [yag_v (k := 440) (i := 55) H (r := 120) (lo := 55) (hi := 55) (by decide +kernel) (by decide +kernel) (by omega) (by omega), ypm_c (yag_v (k := 440) (i := 22) H (r := 120) (lo := 22) (hi := 22) (by decide +kernel) (by decide +kernel) (by omega) (by omega)) (fun d hd => yag_v H (r := 119) (lo := 30) (hi := 35) (by decide +kernel) (by decide +kernel) (by omega) (by omega))]
  rw [if_neg q, if_neg q]
  clear q
  by_cases q : a = 40
  · subst q
    rw [if_pos rfl, if_pos rfl, yag_v (k := 440) (i := 22) H (r := 120) (lo := 22) (hi := 22) (by decide +kernel) (by decide +kernel) (by omega) (by omega), ysm_c _ (Nat.min_le_left _ _) (fun d hd => yag_e H (r := 101) (lo := 6) (hi := 11) (by decide +kernel) (by decide +kernel) (by omega) (by omega))]
  rw [if_neg q, if_neg q]
