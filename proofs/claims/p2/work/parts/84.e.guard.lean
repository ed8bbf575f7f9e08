/-! the guards: a told fact hangs on its places -/
section QGUA
variable {h h' : zH} {a : Nat}
noncomputable def gAgr (a : Nat) (h h' : zH) : Prop := ∀ k i : Nat, sgcQ (qGu a) (pReg k) (i : Int) → h.1 k i = h'.1 k i
theorem ga_g (H : gAgr a h h') {k : Nat} (h1 : 500 ≤ k) (h2 : k < 900) (i : Nat) : h.1 k i = h'.1 k i := H k i (Or.inl (by rw [pReg_g h1 h2]; exact h1))
theorem ga_c (H : gAgr a h h') {k r : Nat} {lo hi : Int} (hk : pReg k = r) (hz : (r, lo, hi) ∈ qGu a) {i : Nat} (h1 : lo ≤ (i : Int)) (h2 : (i : Int) ≤ hi) : h.1 k i = h'.1 k i := H k i (Or.inr ⟨_, hz, hk, Or.inr ⟨h1, h2⟩⟩)
theorem ga_r (H : gAgr a h h') {r : Nat} (h1 : 500 ≤ r) (h2 : r < 900) : rv h r = rv h' r := by
  funext i
  rw [rv_g h1 h2, rv_g h1 h2, ga_g H h1 h2]
theorem ga_a (H : gAgr a h h') {r : Nat} {lo hi : Int} (hs : pSin r = true) (hz : (r, lo, hi) ∈ qGu a) (h0 : hi < lo) : rv h r = rv h' r := by
  funext i
  unfold rv yv
  rw [H (qk r) i (Or.inr ⟨_, hz, qk_r hs, Or.inl h0⟩)]
theorem ga_p (H : gAgr a h h') {r : Nat} {lo hi : Int} (hs : pSin r = true) (hz : (r, lo, hi) ∈ qGu a) {i : Nat} (h1 : lo ≤ (i : Int)) (h2 : (i : Int) ≤ hi) : rv h r i = rv h' r i := by
  unfold rv yv
  rw [H (qk r) i (Or.inr ⟨_, hz, qk_r hs, Or.inr ⟨h1, h2⟩⟩)]
theorem ga_610 (H : gAgr a h h') (hz : (0, (1 : Int), (0 : Int)) ∈ qGu a) (b : Nat) : rv h (610 + b) = rv h' (610 + b) := by
  by_cases hs : pSin (610 + b) = true
  · funext i
    unfold rv yv
    rw [H (qk (610 + b)) i (Or.inl (by rw [qk_r hs]; omega))]
  · funext i
    unfold rv yv
    have e : qk (610 + b) = 0 := by
      unfold qk
      rw [dif_neg hs]
    rw [e, H 0 i (Or.inr ⟨_, hz, by decide +kernel, Or.inl (by decide)⟩)]
theorem ga_60 (H : gAgr 60 h h') (hn : nGh 0 1 2 5 7 9 h) : nGh 0 1 2 5 7 9 h' := by
  have e606 := ga_r H (r := 606) (by decide) (by decide)
  have e607 := ga_r H (r := 607) (by decide) (by decide)
  have e608 := ga_r H (r := 608) (by decide) (by decide)
  have e609 := ga_r H (r := 609) (by decide) (by decide)
  have e614 := ga_r H (r := 614) (by decide) (by decide)
  have e615 := ga_r H (r := 615) (by decide) (by decide)
  have e616 := ga_r H (r := 616) (by decide) (by decide)
  have e617 := ga_r H (r := 617) (by decide) (by decide)
  have e620 := ga_r H (r := 620) (by decide) (by decide)
  have e610 := ga_610 H (by decide +kernel)
  have e55 := ga_a H (r := 55) (lo := 1) (hi := 0) (by decide +kernel) (by decide +kernel) (by decide)
  have e0 := ga_a H (r := 0) (lo := 1) (hi := 0) (by decide +kernel) (by decide +kernel) (by decide)
  have e1 := ga_a H (r := 1) (lo := 1) (hi := 0) (by decide +kernel) (by decide +kernel) (by decide)
  have e2 := ga_a H (r := 2) (lo := 1) (hi := 0) (by decide +kernel) (by decide +kernel) (by decide)
  have e5 := ga_a H (r := 5) (lo := 1) (hi := 0) (by decide +kernel) (by decide +kernel) (by decide)
  have f0 := ga_p H (r := 56) (lo := 0) (hi := 2) (i := 0) (by decide +kernel) (by decide +kernel) (by decide) (by decide)
  have f1 := ga_p H (r := 56) (lo := 0) (hi := 2) (i := 1) (by decide +kernel) (by decide +kernel) (by decide) (by decide)
  have f2 := ga_p H (r := 56) (lo := 0) (hi := 2) (i := 2) (by decide +kernel) (by decide +kernel) (by decide) (by decide)
  have f3 := ga_p H (r := 7) (lo := 9) (hi := 9) (i := 9) (by decide +kernel) (by decide +kernel) (by decide) (by decide)
  have f4 := ga_p H (r := 54) (lo := 5) (hi := 5) (i := 5) (by decide +kernel) (by decide +kernel) (by decide) (by decide)
  unfold nGh at hn ⊢
  simp only [← e606, ← e607, ← e608, ← e609, ← e614, ← e615, ← e616, ← e617, ← e620, ← e610, ← e55, ← e0, ← e1, ← e2, ← e5, ← f0, ← f1, ← f2, ← f3, ← f4]
  exact hn
theorem ga_np (H : gAgr a h h') {n G : Nat} {ne : Nat → Int} (hn : nPas n G ne h) : nPas n G ne h' := by
  unfold nPas at hn ⊢
  simp only [← ga_r H (r := 610) (by decide) (by decide), ← ga_r H (r := 612) (by decide) (by decide), ← ga_r H (r := 630) (by decide) (by decide), ← ga_r H (r := 631) (by decide) (by decide), ← ga_r H (r := 632) (by decide) (by decide), ← ga_r H (r := 633) (by decide) (by decide)]
  exact hn
theorem ga_60c (H : gAgr 60 h h') (hn : cGh h) : cGh h' := by
  obtain ⟨n, G, q1, q2, q3, q4, q5, q6, q7⟩ := hn
  have e55 := ga_a H (r := 55) (lo := 1) (hi := 0) (by decide +kernel) (by decide +kernel) (by decide)
  have f0 := ga_p H (r := 56) (lo := 0) (hi := 2) (i := 0) (by decide +kernel) (by decide +kernel) (by decide) (by decide)
  have f1 := ga_p H (r := 56) (lo := 0) (hi := 2) (i := 1) (by decide +kernel) (by decide +kernel) (by decide) (by decide)
  have e610 := ga_610 H (by decide +kernel)
  refine ⟨n, G, by rw [← f0]; exact q1, by rw [← f1]; exact q2, q3, ?_, ?_, ?_, ?_⟩
  · simp only [← ga_r H (r := 610) (by decide) (by decide), ← ga_r H (r := 611) (by decide) (by decide), ← ga_r H (r := 612) (by decide) (by decide), ← e55]
    exact q4
  · simp only [← ga_r H (r := 611) (by decide) (by decide), ← ga_r H (r := 625) (by decide) (by decide)]
    exact q5
  · rw [← e55]
    exact ga_np H q6
  · simp only [← e610]
    exact q7
theorem ga_64 (H : gAgr 64 h h') (hn : mGh h) : mGh h' := by
  obtain ⟨n, G, mare, hold, nt, ne, bd, ey, dm, pl, g0, q1, q2, q3, q4, q5, q6, q7, q8, q9, q10, q11⟩ := hn
  have e610 := ga_610 H (by decide +kernel)
  have h6 : n ≤ 6 := q8.2.1
  have c0 : ∀ i : Nat, i ≤ 5 → rv h 101 i = rv h' 101 i := fun i hi => ga_p H (r := 101) (lo := 0) (hi := 5) (by decide +kernel) (by decide +kernel) (by omega) (by omega)
  have c1 : ∀ i : Nat, 6 ≤ i → i ≤ 17 → rv h 101 i = rv h' 101 i := fun i h1 hi => ga_p H (r := 101) (lo := 6) (hi := 17) (by decide +kernel) (by decide +kernel) (by omega) (by omega)
  have c2 : ∀ i : Nat, 30 ≤ i → i ≤ 35 → rv h 101 i = rv h' 101 i := fun i h1 hi => ga_p H (r := 101) (lo := 30) (hi := 35) (by decide +kernel) (by decide +kernel) (by omega) (by omega)
  have c3 : ∀ i : Nat, i ≤ 23 → rv h 100 i = rv h' 100 i := fun i hi => ga_p H (r := 100) (lo := 0) (hi := 23) (by decide +kernel) (by decide +kernel) (by omega) (by omega)
  refine ⟨n, G, mare, hold, nt, ne, bd, ey, dm, pl, g0, ?_, ?_, ?_, ?_, ?_, fun m hm => ?_, q7, q8, ?_, ga_np H q10, ?_⟩
  · rw [← ga_p H (r := 120) (lo := 22) (hi := 22) (i := 22) (by decide +kernel) (by decide +kernel) (by decide) (by decide)]
    exact q1
  · rw [← ga_p H (r := 99) (lo := 0) (hi := 2) (i := 0) (by decide +kernel) (by decide +kernel) (by decide) (by decide)]
    exact q2
  · rw [← ga_p H (r := 99) (lo := 0) (hi := 2) (i := 1) (by decide +kernel) (by decide +kernel) (by decide) (by decide)]
    exact q3
  · rw [← ga_p H (r := 120) (lo := 25) (hi := 25) (i := 25) (by decide +kernel) (by decide +kernel) (by decide) (by decide)]
    exact q4
  · rw [← ga_p H (r := 101) (lo := 38) (hi := 38) (i := 38) (by decide +kernel) (by decide +kernel) (by decide) (by decide)]
    exact q5
  · rw [← c0 m (by omega), ← c1 (m + 6) (by omega) (by omega), ← c1 (m + 12) (by omega) (by omega), ← c2 (m + 30) (by omega) (by omega), ← c3 (4 * m) (by omega)]
    exact q6 m hm
  · rw [← ga_r H (r := 620) (by decide) (by decide)]
    unfold nCel at q9 ⊢
    simp only [← ga_r H (r := 606) (by decide) (by decide), ← ga_r H (r := 607) (by decide) (by decide), ← ga_r H (r := 608) (by decide) (by decide), ← ga_r H (r := 609) (by decide) (by decide), ← ga_r H (r := 614) (by decide) (by decide), ← ga_r H (r := 615) (by decide) (by decide), ← ga_r H (r := 616) (by decide) (by decide), ← ga_r H (r := 617) (by decide) (by decide), ← ga_r H (r := 621) (by decide) (by decide), ← ga_r H (r := 622) (by decide) (by decide), ← ga_r H (r := 623) (by decide) (by decide), ← ga_r H (r := 624) (by decide) (by decide), ← ga_r H (r := 625) (by decide) (by decide), ← e610]
    exact q9
  · simp only [← e610]
    exact q11
theorem ga_N (H : gAgr a h h') : wN h' = wN h := by
  unfold wN
  rw [ga_g H (k := 521) (by decide) (by decide)]
theorem ga_B (H : gAgr a h h') : wB h' = wB h := by
  funext i
  unfold wB
  rw [ga_g H (k := 522) (by decide) (by decide)]
theorem ga_wg {c : Bool} (H : gAgr a h h') (hn : wOk h ∧ wGh h ∧ wNg c h ∧ wNw h) : wOk h' ∧ wGh h' ∧ wNg c h' ∧ wNw h' := by
  obtain ⟨q1, q2, q3, q4⟩ := hn
  refine ⟨?_, fun r h1 h2 i hi => ?_, fun i ix hi hx => ?_, fun p hp => ?_⟩
  · unfold wOk at q1 ⊢
    rw [ga_N H, ga_B H]
    exact q1
  · rw [ga_N H, ga_B H, ← ga_g H (by omega) (by omega)]
    exact q2 r h1 h2 i hi
  · rw [← ga_r H (r := 640 + i) (by omega) (by omega), ga_N H, ga_B H]
    exact q3 i ix hi hx
  · rw [← ga_r H (r := 663) (by decide) (by decide), ga_N H, ga_B H]
    rw [ga_N H] at hp
    exact q4 p hp
theorem ga_0 (H : gAgr 0 h h') (hn : tTp true h) : tTp true h' := by
  obtain ⟨q1, q2, q3⟩ := hn
  rw [if_pos rfl] at q2
  obtain ⟨w1, w2⟩ := ga_wg H ⟨q1, q3⟩
  refine ⟨w1, ?_, w2⟩
  rw [if_pos rfl]
  unfold wOc at q2 ⊢
  rw [ga_N H, ga_B H, ← ga_c H (k := 353) (r := 41) (lo := 1) (hi := 1) (i := 1) (by decide +kernel) (by decide +kernel) (by decide) (by decide)]
  refine ⟨q2.1, fun i hi => ?_⟩
  rw [← ga_c H (k := 352) (r := 40) (lo := 0) (hi := 99999) (by decide +kernel) (by decide +kernel) (by omega) (by have := q1.1; omega)]
  exact q2.2 i hi
theorem ga_13 (H : gAgr 13 h h') (hn : tTp false h) : tTp false h' := by
  obtain ⟨q1, q2, q3⟩ := hn
  rw [if_neg (by decide)] at q2
  obtain ⟨w1, w2⟩ := ga_wg H ⟨q1, q3⟩
  refine ⟨w1, ?_, w2⟩
  rw [if_neg (by decide)]
  unfold wOm at q2 ⊢
  rw [ga_N H, ga_B H, ← ga_c H (k := 440) (r := 120) (lo := 2) (hi := 2) (i := 2) (by decide +kernel) (by decide +kernel) (by decide) (by decide)]
  refine ⟨q2.1, fun i hi => ?_⟩
  rw [← ga_c H (k := 407) (r := 87) (lo := 0) (hi := 99999) (by decide +kernel) (by decide +kernel) (by omega) (by have := q1.1; omega)]
  exact q2.2 i hi
theorem ga_tk (H : gAgr a h h') {c : Bool} {i : Nat} {x b : Int} (hn : tTk c i x b h) : tTk c i x b h' := by
  obtain ⟨ix, A, e1, e2, e3⟩ := hn
  refine ⟨ix, A, e1, e2, ?_⟩
  rw [ga_N H, ga_B H]
  unfold tTok lAt at e3 ⊢
  rw [← ga_r H (r := 660) (by decide) (by decide), ← ga_r H (r := 661) (by decide) (by decide), ← ga_r H (r := 662) (by decide) (by decide)]
  exact e3
theorem ga_pt (H : gAgr a h h') {i : Nat} {x b : Int} (hn : tPt i x b h) : tPt i x b h' := by
  unfold tPt at hn ⊢
  rw [ga_N H, ga_B H]
  exact hn
theorem ga_pb (H : gAgr a h h') {x b : Int} (hn : tPb x b h) : tPb x b h' := by
  unfold tPb lTab at hn ⊢
  rw [ga_N H, ga_B H, ← ga_r H (r := 666) (by decide) (by decide), ← ga_r H (r := 667) (by decide) (by decide), ← ga_r H (r := 668) (by decide) (by decide), ← ga_r H (r := 672) (by decide) (by decide)]
  exact hn
theorem ga_61 (H : gAgr a h h') (hn : qTab pReg h) : qTab pReg h' := by
  have key2 : ∀ {g hb : Nat} {f : Int32 → Int32 → Int32}, 500 ≤ g → qT2 pReg h g hb f → qT2 pReg h' g hb f := by
    rintro g hb f hg ⟨k, hk, q⟩
    refine ⟨k, hk, fun x y h1 h2 => ?_⟩
    rw [← H k _ (Or.inl (by rw [hk]; exact hg))]
    exact q x y h1 h2
  have key3 : ∀ {g : Nat} {f : Int32 → Int32 → Int32}, 500 ≤ g → qT3 pReg h g f → qT3 pReg h' g f := by
    rintro g f hg ⟨k, hk, q⟩
    refine ⟨k, hk, fun x y h1 h2 h3 => ?_⟩
    rw [← H k _ (Or.inl (by rw [hk]; exact hg))]
    exact q x y h1 h2 h3
  obtain ⟨q1, q2, q3, q4, q5, q6⟩ := hn
  exact ⟨key2 (by decide) q1, key2 (by decide) q2, key2 (by decide) q3, key2 (by decide) q4, key3 (by decide) q5, key3 (by decide) q6⟩
theorem ga_62 (H : gAgr 62 h h') (hn : wClw h) : wClw h' := by
  obtain ⟨k, c, hk, q1, q2, q3, q4, q5, q6, q7⟩ := hn
  refine ⟨k, c, hk, ?_, ?_, q3, fun j v hj => ?_, ?_, q6, fun b hb => ?_⟩
  · rw [← ga_c H (k := 374) (r := 54) (lo := 4) (hi := 5) (i := 5) (by decide +kernel) (by decide +kernel) (by decide) (by decide)]
    exact q1
  · rw [← ga_c H (k := 374) (r := 54) (lo := 4) (hi := 5) (i := 4) (by decide +kernel) (by decide +kernel) (by decide) (by decide)]
    exact q2
  · have hj2 : j < c.length := (List.getElem?_eq_some_iff.mp hj).1
    have er : ∀ k : Fin 4, pReg (366 + k.val) = 49 := by decide +kernel
    rw [← ga_c H (k := 366 + k) (r := 49) (lo := 0) (hi := 241) (er ⟨k, hk⟩) (by decide +kernel) (by omega) (by omega)]
    exact q4 j v hj
  · rw [← ga_c H (k := 371) (r := 51) (lo := 0) (hi := 3) (by decide +kernel) (by decide +kernel) (by omega) (by omega)]
    exact q5
  · rw [← ga_g H (k := 620) (by decide) (by decide)]
    exact q7 b hb
theorem ga_cl (H : gAgr 65 h h') {n : Nat} (hn : n ≤ 4) : ∀ {l : List (List Int × List Int)} {i : Nat}, i + l.length ≤ 140 → clAt h n i l → clAt h' n i l
  | [], _, _, _ => trivial
  | (t, s) :: r, i, hl, ⟨⟨b, e1, e2, e3, e4, e5, e6⟩, k⟩ => by
    have hl' : i + (r.length + 1) ≤ 140 := hl
    have m8 : ∀ j : Nat, j ≤ 2599 → h.1 408 j = h'.1 408 j := fun j hj => ga_c H (k := 408) (r := 88) (lo := 0) (hi := 2599) (by decide +kernel) (by decide +kernel) (by omega) (by omega)
    have m9 : ∀ j : Nat, j ≤ 2599 → h.1 409 j = h'.1 409 j := fun j hj => ga_c H (k := 409) (r := 89) (lo := 0) (hi := 2599) (by decide +kernel) (by decide +kernel) (by omega) (by omega)
    have key : ∀ {o : Nat} {l : List Int}, o + l.length ≤ 242 → mAt h (520 * n + o) l → mAt h' (520 * n + o) l := by
      intro o l ho q j v hj
      have hj2 : j < l.length := (List.getElem?_eq_some_iff.mp hj).1
      rw [← m8 _ (by omega), ← m9 _ (by omega)]
      exact q j v hj
    refine ⟨⟨b, ?_, ?_, ?_, e4, key (by omega) e5, key (by omega) e6⟩, ga_cl H hn (by omega) k⟩
    · rw [← ga_c H (k := 412) (r := 92) (lo := 0) (hi := 699) (by decide +kernel) (by decide +kernel) (by omega) (by omega)]
      exact e1
    · rw [← ga_c H (k := 413) (r := 93) (lo := 0) (hi := 699) (by decide +kernel) (by decide +kernel) (by omega) (by omega)]
      exact e2
    · rw [← ga_c H (k := 414) (r := 94) (lo := 0) (hi := 699) (by decide +kernel) (by decide +kernel) (by omega) (by omega)]
      exact e3
theorem ga_65 (H : gAgr 65 h h') (hn : wMlw h) : wMlw h' := by
  obtain ⟨N, cl, hN, q1, q2, q3, q4, q5, q6⟩ := hn
  refine ⟨N, cl, hN, ?_, ?_, q3, ga_cl H hN (by omega) q4, q5, fun b hb => ?_⟩
  · rw [← ga_c H (k := 440) (r := 120) (lo := 25) (hi := 25) (i := 25) (by decide +kernel) (by decide +kernel) (by decide) (by decide)]
    exact q1
  · rw [← ga_c H (k := 411) (r := 91) (lo := 0) (hi := 4) (by decide +kernel) (by decide +kernel) (by omega) (by omega)]
    exact q2
  · rw [← ga_g H (k := 620) (by decide) (by decide)]
    exact q6 b hb
/-- all of them, the ones taken over told apart -/
theorem qGv_gu {y : Nat → zH → Int} (hy : ∀ (a : Nat) (h h' : zH), gAgr a h h' → y a h = y a h') : sGvQ pReg qGu (qGv y) := by
  intro a x v h h' H e
  have H : gAgr a h h' := H
  unfold qGv at e ⊢
  by_cases c0 : a = 0
  · rw [if_pos c0] at e ⊢
    subst c0
    exact ga_0 H e
  rw [if_neg c0] at e ⊢
  by_cases c1 : a = 13
  · rw [if_pos c1] at e ⊢
    subst c1
    exact ga_13 H e
  rw [if_neg c1] at e ⊢
  by_cases c2 : a = 60
  · rw [if_pos c2] at e ⊢
    subst c2
    exact ⟨ga_60 H e.1, ga_60c H e.2⟩
  rw [if_neg c2] at e ⊢
  by_cases c3 : a = 61
  · rw [if_pos c3] at e ⊢
    exact ga_61 H e
  rw [if_neg c3] at e ⊢
  by_cases c4 : a = 62
  · rw [if_pos c4] at e ⊢
    subst c4
    exact ga_62 H e
  rw [if_neg c4] at e ⊢
  by_cases c5 : a = 63
  · rw [if_pos c5] at e
    exact e.elim
  rw [if_neg c5] at e ⊢
  by_cases c6 : a = 64
  · rw [if_pos c6] at e ⊢
    subst c6
    exact ga_64 H e
  rw [if_neg c6] at e ⊢
  by_cases c7 : a = 65
  · rw [if_pos c7] at e ⊢
    subst c7
    exact ga_65 H e
  rw [if_neg c7] at e ⊢
  by_cases c8 : 100 ≤ a ∧ a < 117
  · rw [if_pos c8] at e ⊢
    exact ga_tk H e
  rw [if_neg c8] at e ⊢
  by_cases c9 : 120 ≤ a ∧ a < 137
  · rw [if_pos c9] at e ⊢
    exact ⟨ga_tk H e.1, ga_pt H e.2⟩
  rw [if_neg c9] at e ⊢
  by_cases c10 : 140 ≤ a ∧ a < 144
  · rw [if_pos c10] at e ⊢
    exact ga_pb H e
  rw [if_neg c10] at e ⊢
  rw [← hy a h h' H]
  exact e
end QGUA
