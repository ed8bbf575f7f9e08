/-! the public methods keep what is told -/
theorem yHyA {t s : Nat} (ht : t < 5) {c0 v0 : Nat → Int} {ar : Nat → Int32} : yHy (yGv t s c0 v0 ar) 34 := by
  intro i Q hi e
  match i, hi, e with
  | 0, _, e => cases e; exact yT0_ok ht
  | 1, _, e => cases e; exact yT1_ok ht
  | 2, _, e => cases e; exact yT2_ok ht
  | 3, _, e => cases e; exact yT3_ok ht
  | 4, _, e => cases e; exact yT4_ok ht
  | 5, _, e => cases e; exact yT5_ok ht
  | 6, _, e => cases e; exact yT6_ok ht
  | 7, _, e => cases e; exact yT7_ok ht
  | 8, _, e => cases e; exact yT8_ok ht
  | 9, _, e => cases e; exact yT9_ok ht
  | 10, _, e => cases e; exact yT10_ok ht
  | 11, _, e => cases e; exact yT11_ok ht
  | 12, _, e => cases e; exact yT12_ok ht
  | 13, _, e => cases e; exact yT13_ok ht
  | 14, _, e => cases e; exact yT14_ok ht
  | 15, _, e => cases e; exact yT15_ok ht
  | 16, _, e => cases e; exact yT16_ok ht
  | 17, _, e => cases e; exact yT17_ok ht
  | 18, _, e => cases e; exact yT18_ok ht
  | 19, _, e => cases e; exact yT19_ok ht
  | 20, _, e => cases e; exact yT20_ok ht
  | 21, _, e => cases e; exact yT21_ok ht
  | 22, _, e => cases e; exact yT22_ok ht
  | 23, _, e => cases e; exact yT23_ok ht
  | 24, _, e => cases e; exact yT24_ok ht
  | 25, _, e => cases e; exact yT25_ok ht
  | 26, _, e => cases e; exact yT26_ok ht
  | 27, _, e => cases e; exact yT27_ok ht
  | 28, _, e => cases e; exact yT28_ok ht
  | 29, _, e => cases e; exact yT29_ok ht
  | 30, _, e => cases e; exact yT30_ok ht
  | 31, _, e => cases e; exact yT31_ok ht
  | 32, _, e => cases e; exact yT32_ok ht
  | 33, _, e => cases e; exact yT33_ok ht
  | k + 34, hi, _ => omega
theorem yHyB {t s : Nat} (ht : t < 5) {c0 v0 : Nat → Int} {ar : Nat → Int32} : yHy (yGv t s c0 v0 ar) 38 := by
  intro i Q hi e
  by_cases h34 : i < 34
  · exact yHyA ht i Q h34 e
  · rcases (show i = 34 ∨ i = 35 ∨ i = 36 ∨ i = 37 by omega) with rfl | rfl | rfl | rfl
    · cases e; exact yT34_ok ht (yHy_le (by decide) (yHyA ht))
    · cases e; exact yT35_ok ht (yHy_le (by decide) (yHyA ht))
    · cases e; exact yT36_ok ht (yHyA ht)
    · cases e; exact yT37_ok ht (yHyA ht)
noncomputable def yGs : List (Nat × Int × Int) := [(4, 1, 1), (5, 1, 1), (6, 1, 1), (7, 1, 1), (9, 0, 1), (40, (-2147483648), 2147483647)]
noncomputable def yKs : List yKc := [(0, [((2, 120, (22, [])), 1), ((2, 99, (0, [])), (-6))])]
noncomputable abbrev yG0 : Nat → zH → Int := yGv 0 0 (fun _ => 0) (fun _ => 0) (fun _ => 0)
theorem yB_b {p : Prop} : 0 ≤ yB p ∧ yB p ≤ 1 := by
  unfold yB
  split
  · exact ⟨by decide, by decide⟩
  · exact ⟨by decide, by decide⟩
theorem yGs_ok {h : zH} (hI : yInv h) {ar : Nat → Int32} : ∀ z ∈ yGs, z.2.1 ≤ yGv 0 0 (fun _ => 0) (fun _ => 0) ar z.1 h ∧ yGv 0 0 (fun _ => 0) (fun _ => 0) ar z.1 h ≤ z.2.2 := by
  obtain ⟨hG, g4, g5, g6, g7, gm⟩ := hI
  have one : ∀ {p : Prop}, p → (1 : Int) ≤ yB p ∧ yB p ≤ 1 := fun hp => by rw [yB_1.mpr hp]; exact ⟨Int.le_refl _, Int.le_refl _⟩
  intro z hz
  unfold yGs at hz
  simp only [List.mem_cons, List.not_mem_nil, or_false] at hz
  rcases hz with rfl | rfl | rfl | rfl | rfl | rfl
  · exact one g4
  · exact one g5
  · exact one g6
  · exact one g7
  · exact yB_b
  · exact si32 (ysm h (min 6 (yv h 440 22).toNat))
theorem yKs_ok {h : zH} (hI : yInv h) {gv : Nat → zH → Int} {args : List zV} : ∀ k ∈ yKs, k.1 + ysum (ywl gv args h) k.2 ≤ 0 := by
  intro k hk
  have := List.mem_singleton.mp hk
  subst this
  show 0 + (1 * yv h (yCel 120) 22 + (-6 * yv h (yCel 99) 0 + 0)) ≤ 0
  have gm := hI.2.2.2.2.2
  have e1 : yCel 120 = 440 := by decide +kernel
  have e2 : yCel 99 = 419 := by decide +kernel
  rw [e1, e2]
  omega
/-- a call is well: it returns an int, what is told is kept, and so is the snow -/
noncomputable def yGood (d mid : Nat) (args : List zV) (h : zH) : Prop := ∃ m x h', yrun m d mid args h = some (some (.inl x), h') ∧ yInv h' ∧ h'.1 406 18 = h.1 406 18 ∧ h'.1 440 26 = h.1 440 26
noncomputable def yMI : Int := -2147483648
theorem ypub {Q : sQ} {r0 : Nat} {tys : List (Nat × Nat × Int × Int)} {args : List zV} {h : zH} {d : Nat} (hS : ySum yG0 Q) (hI : yInv h) (hrf : ∃ k, zget (zent 0 args) 0 = some (.inr (.inr k)) ∧ yReg k = r0) (hty : ∀ z ∈ tys, ytyp args z) (hc : (yTok r0 tys yGs yKs Q && yfre Q.2.2.2.1 [(86, 18, 18), (120, 26, 26)]) = true) (hd : Q.2.2.2.2 ≤ d) : yGood d Q.1 args h := by
  rw [Bool.and_eq_true] at hc
  obtain ⟨m, x, h', r1, r2, r3⟩ := ytop (by decide) hS hI hrf hty (yGs_ok hI) (yKs_ok hI) hc.1 hd
  exact ⟨m, x, h', r1, r2, (yfre_ok hc.2 r3 ⟨_, List.mem_cons_self .., by decide +kernel, by decide, by decide⟩).symm, (yfre_ok hc.2 r3 ⟨_, List.mem_cons_of_mem _ (List.mem_cons_self ..), by decide +kernel, by decide, by decide⟩).symm⟩
theorem yt0 {args : List zV} : ∀ z ∈ ([] : List (Nat × Nat × Int × Int)), ytyp args z := fun z hz => by cases hz
theorem yt1 {args : List zV} {y : Nat × Nat × Int × Int} {l : List (Nat × Nat × Int × Int)} (h : ytyp args y) (hl : ∀ z ∈ l, ytyp args z) : ∀ z ∈ y :: l, ytyp args z := List.forall_mem_cons.mpr ⟨h, hl⟩
theorem yti {args : List zV} {i : Nat} {lo hi : Int} {x : Int32} (h : zget (zent 0 args) i = some (.inl x)) (hb : lo ≤ x.toInt ∧ x.toInt ≤ hi) : ytyp args (i, 0, lo, hi) := by
  show ∃ x : Int32, zget (zent 0 args) i = some (.inl x) ∧ lo ≤ x.toInt ∧ x.toInt ≤ hi
  exact ⟨x, h, hb.1, hb.2⟩
theorem ytlg {args : List zV} {i : Nat} {lo hi : Int} {x : Int64} (h : zget (zent 0 args) i = some (.inr (.inl x))) (hb : lo ≤ x.toInt ∧ x.toInt ≤ hi) : ytyp args (i, 1, lo, hi) := by
  show ∃ x : Int64, zget (zent 0 args) i = some (.inr (.inl x)) ∧ lo ≤ x.toInt ∧ x.toInt ≤ hi
  exact ⟨x, h, hb.1, hb.2⟩
theorem yP_X11_awake {h : zH} (hI : yInv h) (a : Int32) : yGood 60 36 [.inr (.inr 406), .inl a] h := ypub (Q := yQ63) (r0 := 86) (tys := [(1, 0, (-2147483648), 2147483647)]) (yS63 (yGvOk (by decide))) hI ⟨406, rfl, by decide +kernel⟩ (yt1 (yti (x := a) rfl (si32 a)) yt0) (by decide +kernel) (by decide +kernel)
theorem yP_X11_back {h : zH} (hI : yInv h) : yGood 60 37 [.inr (.inr 406)] h := ypub (Q := yQ65) (r0 := 86) (tys := []) (yS65 (yGvOk (by decide))) hI ⟨406, rfl, by decide +kernel⟩ yt0 (by decide +kernel) (by decide +kernel)
theorem yP_X11_bed {h : zH} (hI : yInv h) (a : Int32) (b : Int32) : yGood 60 38 [.inr (.inr 406), .inl a, .inl b] h := ypub (Q := yQ67) (r0 := 86) (tys := [(1, 0, (-2147483648), 2147483647), (2, 0, (-2147483648), 2147483647)]) (yS67 (yGvOk (by decide))) hI ⟨406, rfl, by decide +kernel⟩ (yt1 (yti (x := a) rfl (si32 a)) (yt1 (yti (x := b) rfl (si32 b)) yt0)) (by decide +kernel) (by decide +kernel)
theorem yP_X11_best {h : zH} (hI : yInv h) (a : Int32) (b : Int32) : yGood 60 40 [.inr (.inr 406), .inl a, .inl b] h := ypub (Q := yQ77) (r0 := 86) (tys := [(1, 0, (-2147483648), 2147483647), (2, 0, (-2147483648), 2147483647)]) (yS77 (yGvOk (by decide))) hI ⟨406, rfl, by decide +kernel⟩ (yt1 (yti (x := a) rfl (si32 a)) (yt1 (yti (x := b) rfl (si32 b)) yt0)) (by decide +kernel) (by decide +kernel)
theorem yP_X11_count {h : zH} (hI : yInv h) (a : Int32) : yGood 60 42 [.inr (.inr 406), .inl a] h := ypub (Q := yQ82) (r0 := 86) (tys := [(1, 0, (-2147483648), 2147483647)]) (yS82 (yGvOk (by decide))) hI ⟨406, rfl, by decide +kernel⟩ (yt1 (yti (x := a) rfl (si32 a)) yt0) (by decide +kernel) (by decide +kernel)
theorem yP_X11_dream {h : zH} (hI : yInv h) (a : Int32) (b : Int32) : yGood 60 47 [.inr (.inr 406), .inl a, .inl b] h := ypub (Q := yQ87) (r0 := 86) (tys := [(1, 0, (-2147483648), 2147483647), (2, 0, (-2147483648), 2147483647)]) (yS87 (yGvOk (by decide))) hI ⟨406, rfl, by decide +kernel⟩ (yt1 (yti (x := a) rfl (si32 a)) (yt1 (yti (x := b) rfl (si32 b)) yt0)) (by decide +kernel) (by decide +kernel)
theorem yP_X11_dull {h : zH} (hI : yInv h) (a : Int32) : yGood 60 48 [.inr (.inr 406), .inl a] h := ypub (Q := yQ88) (r0 := 86) (tys := [(1, 0, (-2147483648), 2147483647)]) (yS88 (yGvOk (by decide))) hI ⟨406, rfl, by decide +kernel⟩ (yt1 (yti (x := a) rfl (si32 a)) yt0) (by decide +kernel) (by decide +kernel)
theorem yP_X11_end {h : zH} (hI : yInv h) (a : Int32) : yGood 60 49 [.inr (.inr 406), .inl a] h := ypub (Q := yQ89) (r0 := 86) (tys := [(1, 0, (-2147483648), 2147483647)]) (yS89 (yGvOk (by decide))) hI ⟨406, rfl, by decide +kernel⟩ (yt1 (yti (x := a) rfl (si32 a)) yt0) (by decide +kernel) (by decide +kernel)
theorem yP_X11_fault {h : zH} (hI : yInv h) (a : Int32) : yGood 60 51 [.inr (.inr 406), .inl a] h := ypub (Q := yQ149) (r0 := 86) (tys := [(1, 0, (-2147483648), 2147483647)]) (yS149 (yGvOk (by decide))) hI ⟨406, rfl, by decide +kernel⟩ (yt1 (yti (x := a) rfl (si32 a)) yt0) (by decide +kernel) (by decide +kernel)
theorem yP_X11_feed {h : zH} (hI : yInv h) (a : Int32) (b : Int32) (c : Int32) (d : Int32) (e : Int32) : yGood 60 52 [.inr (.inr 406), .inl a, .inl b, .inl c, .inl d, .inl e] h := ypub (Q := yQ150) (r0 := 86) (tys := [(1, 0, (-2147483648), 2147483647), (2, 0, (-2147483648), 2147483647), (3, 0, (-2147483648), 2147483647), (4, 0, (-2147483648), 2147483647), (5, 0, (-2147483648), 2147483647)]) (yS150 (yGvOk (by decide))) hI ⟨406, rfl, by decide +kernel⟩ (yt1 (yti (x := a) rfl (si32 a)) (yt1 (yti (x := b) rfl (si32 b)) (yt1 (yti (x := c) rfl (si32 c)) (yt1 (yti (x := d) rfl (si32 d)) (yt1 (yti (x := e) rfl (si32 e)) yt0))))) (by decide +kernel) (by decide +kernel)
theorem yP_X11_game {h : zH} (hI : yInv h) (a : Int32) (b : Int32) (c : Int32) (d : Int32) (e : Int32) : yGood 60 54 [.inr (.inr 406), .inl a, .inl b, .inl c, .inl d, .inl e] h := ypub (Q := yQ154) (r0 := 86) (tys := [(1, 0, (-2147483648), 2147483647), (2, 0, (-2147483648), 2147483647), (3, 0, (-2147483648), 2147483647), (4, 0, (-2147483648), 2147483647), (5, 0, (-2147483648), 2147483647)]) (yS154 (yGvOk (by decide))) hI ⟨406, rfl, by decide +kernel⟩ (yt1 (yti (x := a) rfl (si32 a)) (yt1 (yti (x := b) rfl (si32 b)) (yt1 (yti (x := c) rfl (si32 c)) (yt1 (yti (x := d) rfl (si32 d)) (yt1 (yti (x := e) rfl (si32 e)) yt0))))) (by decide +kernel) (by decide +kernel)
theorem yP_X11_hourToAsk {h : zH} (hI : yInv h) (a : Int32) : yGood 60 56 [.inr (.inr 406), .inl a] h := ypub (Q := yQ162) (r0 := 86) (tys := [(1, 0, (-2147483648), 2147483647)]) (yS162 (yGvOk (by decide))) hI ⟨406, rfl, by decide +kernel⟩ (yt1 (yti (x := a) rfl (si32 a)) yt0) (by decide +kernel) (by decide +kernel)
theorem yP_X11_image {h : zH} (hI : yInv h) : yGood 60 57 [.inr (.inr 406)] h := ypub (Q := yQ164) (r0 := 86) (tys := []) (yS164 (yGvOk (by decide))) hI ⟨406, rfl, by decide +kernel⟩ yt0 (by decide +kernel) (by decide +kernel)
theorem yP_X11_law {h : zH} (hI : yInv h) (a : Int32) : yGood 60 60 [.inr (.inr 406), .inl a] h := ypub (Q := yQ165) (r0 := 86) (tys := [(1, 0, (-2147483648), 2147483647)]) (yS165 (yGvOk (by decide))) hI ⟨406, rfl, by decide +kernel⟩ (yt1 (yti (x := a) rfl (si32 a)) yt0) (by decide +kernel) (by decide +kernel)
theorem yP_X11_liars {h : zH} (hI : yInv h) : yGood 60 63 [.inr (.inr 406)] h := ypub (Q := yQ169) (r0 := 86) (tys := []) (yS169 (yGvOk (by decide))) hI ⟨406, rfl, by decide +kernel⟩ yt0 (by decide +kernel) (by decide +kernel)
theorem yP_X11_log {h : zH} (hI : yInv h) (a : Int32) (b : Int32) : yGood 60 64 [.inr (.inr 406), .inl a, .inl b] h := ypub (Q := yQ170) (r0 := 86) (tys := [(1, 0, (-2147483648), 2147483647), (2, 0, (-2147483648), 2147483647)]) (yS170 (yGvOk (by decide))) hI ⟨406, rfl, by decide +kernel⟩ (yt1 (yti (x := a) rfl (si32 a)) (yt1 (yti (x := b) rfl (si32 b)) yt0)) (by decide +kernel) (by decide +kernel)
theorem yP_X11_most {h : zH} (hI : yInv h) (a : Int32) : yGood 60 67 [.inr (.inr 406), .inl a] h := ypub (Q := yQ177) (r0 := 86) (tys := [(1, 0, (-2147483648), 2147483647)]) (yS177 (yGvOk (by decide))) hI ⟨406, rfl, by decide +kernel⟩ (yt1 (yti (x := a) rfl (si32 a)) yt0) (by decide +kernel) (by decide +kernel)
theorem yP_X11_night {h : zH} (hI : yInv h) (a : Int32) : yGood 60 68 [.inr (.inr 406), .inl a] h := ypub (Q := yQ180) (r0 := 86) (tys := [(1, 0, (-2147483648), 2147483647)]) (yS180 (yGvOk (by decide))) hI ⟨406, rfl, by decide +kernel⟩ (yt1 (yti (x := a) rfl (si32 a)) yt0) (by decide +kernel) (by decide +kernel)
theorem yP_X11_nights {h : zH} (hI : yInv h) (a : Int32) : yGood 60 70 [.inr (.inr 406), .inl a] h := ypub (Q := yQ183) (r0 := 86) (tys := [(1, 0, (-2147483648), 2147483647)]) (yS183 (yGvOk (by decide))) hI ⟨406, rfl, by decide +kernel⟩ (yt1 (yti (x := a) rfl (si32 a)) yt0) (by decide +kernel) (by decide +kernel)
theorem yP_X11_odds {h : zH} (hI : yInv h) (a : Int32) : yGood 60 72 [.inr (.inr 406), .inl a] h := ypub (Q := yQ184) (r0 := 86) (tys := [(1, 0, (-2147483648), 2147483647)]) (yS184 (yGvOk (by decide))) hI ⟨406, rfl, by decide +kernel⟩ (yt1 (yti (x := a) rfl (si32 a)) yt0) (by decide +kernel) (by decide +kernel)
theorem yP_X11_rests {h : zH} (hI : yInv h) (a : Int32) (b : Int32) (c : Int32) : yGood 60 76 [.inr (.inr 406), .inl a, .inl b, .inl c] h := ypub (Q := yQ187) (r0 := 86) (tys := [(1, 0, (-2147483648), 2147483647), (2, 0, (-2147483648), 2147483647), (3, 0, (-2147483648), 2147483647)]) (yS187 (yGvOk (by decide))) hI ⟨406, rfl, by decide +kernel⟩ (yt1 (yti (x := a) rfl (si32 a)) (yt1 (yti (x := b) rfl (si32 b)) (yt1 (yti (x := c) rfl (si32 c)) yt0))) (by decide +kernel) (by decide +kernel)
theorem yP_X11_ring {h : zH} (hI : yInv h) (a : Int32) : yGood 60 78 [.inr (.inr 406), .inl a] h := ypub (Q := yQ188) (r0 := 86) (tys := [(1, 0, (-2147483648), 2147483647)]) (yS188 (yGvOk (by decide))) hI ⟨406, rfl, by decide +kernel⟩ (yt1 (yti (x := a) rfl (si32 a)) yt0) (by decide +kernel) (by decide +kernel)
theorem yP_X11_rule {h : zH} (hI : yInv h) (a : Int32) : yGood 60 79 [.inr (.inr 406), .inl a] h := ypub (Q := yQ189) (r0 := 86) (tys := [(1, 0, (-2147483648), 2147483647)]) (yS189 (yGvOk (by decide))) hI ⟨406, rfl, by decide +kernel⟩ (yt1 (yti (x := a) rfl (si32 a)) yt0) (by decide +kernel) (by decide +kernel)
theorem yP_X11_said {h : zH} (hI : yInv h) (a : Int32) (b : Int32) (c : Int32) (hc : 0 ≤ c.toInt ∧ c.toInt ≤ 1) : yGood 60 80 [.inr (.inr 406), .inl a, .inl b, .inl c] h := ypub (Q := yQ191) (r0 := 86) (tys := [(1, 0, (-2147483648), 2147483647), (2, 0, (-2147483648), 2147483647), (3, 0, 0, 1)]) (yS191 (yGvOk (by decide))) hI ⟨406, rfl, by decide +kernel⟩ (yt1 (yti (x := a) rfl (si32 a)) (yt1 (yti (x := b) rfl (si32 b)) (yt1 (yti (x := c) rfl hc) yt0))) (by decide +kernel) (by decide +kernel)
theorem yP_X11_seen {h : zH} (hI : yInv h) (a : Int32) (b : Int32) (c : Int32) (hc : 0 ≤ c.toInt ∧ c.toInt ≤ 1) : yGood 60 81 [.inr (.inr 406), .inl a, .inl b, .inl c] h := ypub (Q := yQ193) (r0 := 86) (tys := [(1, 0, (-2147483648), 2147483647), (2, 0, (-2147483648), 2147483647), (3, 0, 0, 1)]) (yS193 (yGvOk (by decide))) hI ⟨406, rfl, by decide +kernel⟩ (yt1 (yti (x := a) rfl (si32 a)) (yt1 (yti (x := b) rfl (si32 b)) (yt1 (yti (x := c) rfl hc) yt0))) (by decide +kernel) (by decide +kernel)
theorem yP_X11_shares {h : zH} (hI : yInv h) (a : Int32) (b : Int32) : yGood 60 82 [.inr (.inr 406), .inl a, .inl b] h := ypub (Q := yQ195) (r0 := 86) (tys := [(1, 0, (-2147483648), 2147483647), (2, 0, (-2147483648), 2147483647)]) (yS195 (yGvOk (by decide))) hI ⟨406, rfl, by decide +kernel⟩ (yt1 (yti (x := a) rfl (si32 a)) (yt1 (yti (x := b) rfl (si32 b)) yt0)) (by decide +kernel) (by decide +kernel)
theorem yP_X11_sleeps {h : zH} (hI : yInv h) (a : Int32) (b : Int32) : yGood 60 83 [.inr (.inr 406), .inl a, .inl b] h := ypub (Q := yQ196) (r0 := 86) (tys := [(1, 0, (-2147483648), 2147483647), (2, 0, (-2147483648), 2147483647)]) (yS196 (yGvOk (by decide))) hI ⟨406, rfl, by decide +kernel⟩ (yt1 (yti (x := a) rfl (si32 a)) (yt1 (yti (x := b) rfl (si32 b)) yt0)) (by decide +kernel) (by decide +kernel)
theorem yP_X11_slept {h : zH} (hI : yInv h) (a : Int32) (b : Int32) : yGood 60 84 [.inr (.inr 406), .inl a, .inl b] h := ypub (Q := yQ197) (r0 := 86) (tys := [(1, 0, (-2147483648), 2147483647), (2, 0, (-2147483648), 2147483647)]) (yS197 (yGvOk (by decide))) hI ⟨406, rfl, by decide +kernel⟩ (yt1 (yti (x := a) rfl (si32 a)) (yt1 (yti (x := b) rfl (si32 b)) yt0)) (by decide +kernel) (by decide +kernel)
theorem yP_X11_spare {h : zH} (hI : yInv h) (a : Int32) : yGood 60 86 [.inr (.inr 406), .inl a] h := ypub (Q := yQ199) (r0 := 86) (tys := [(1, 0, (-2147483648), 2147483647)]) (yS199 (yGvOk (by decide))) hI ⟨406, rfl, by decide +kernel⟩ (yt1 (yti (x := a) rfl (si32 a)) yt0) (by decide +kernel) (by decide +kernel)
theorem yP_X11_stagger {h : zH} (hI : yInv h) (a : Int32) : yGood 60 87 [.inr (.inr 406), .inl a] h := ypub (Q := yQ210) (r0 := 86) (tys := [(1, 0, (-2147483648), 2147483647)]) (yS210 (yGvOk (by decide))) hI ⟨406, rfl, by decide +kernel⟩ (yt1 (yti (x := a) rfl (si32 a)) yt0) (by decide +kernel) (by decide +kernel)
theorem yP_X11_status {h : zH} (hI : yInv h) (a : Int32) : yGood 60 88 [.inr (.inr 406), .inl a] h := ypub (Q := yQ211) (r0 := 86) (tys := [(1, 0, (-2147483648), 2147483647)]) (yS211 (yGvOk (by decide))) hI ⟨406, rfl, by decide +kernel⟩ (yt1 (yti (x := a) rfl (si32 a)) yt0) (by decide +kernel) (by decide +kernel)
theorem yP_X11_swap {h : zH} (hI : yInv h) (a : Int32) (b : Int32) : yGood 60 90 [.inr (.inr 406), .inl a, .inl b] h := ypub (Q := yQ212) (r0 := 86) (tys := [(1, 0, (-2147483648), 2147483647), (2, 0, (-2147483648), 2147483647)]) (yS212 (yGvOk (by decide))) hI ⟨406, rfl, by decide +kernel⟩ (yt1 (yti (x := a) rfl (si32 a)) (yt1 (yti (x := b) rfl (si32 b)) yt0)) (by decide +kernel) (by decide +kernel)
theorem yP_X11_text {h : zH} (hI : yInv h) (a : Int32) : yGood 60 91 [.inr (.inr 406), .inl a] h := ypub (Q := yQ215) (r0 := 86) (tys := [(1, 0, (-2147483648), 2147483647)]) (yS215 (yGvOk (by decide))) hI ⟨406, rfl, by decide +kernel⟩ (yt1 (yti (x := a) rfl (si32 a)) yt0) (by decide +kernel) (by decide +kernel)
theorem yP_X11_train {h : zH} (hI : yInv h) (a : Int32) : yGood 60 92 [.inr (.inr 406), .inl a] h := ypub (Q := yQ216) (r0 := 86) (tys := [(1, 0, (-2147483648), 2147483647)]) (yS216 (yGvOk (by decide))) hI ⟨406, rfl, by decide +kernel⟩ (yt1 (yti (x := a) rfl (si32 a)) yt0) (by decide +kernel) (by decide +kernel)
theorem yP_X11_undo {h : zH} (hI : yInv h) : yGood 60 93 [.inr (.inr 406)] h := ypub (Q := yQ217) (r0 := 86) (tys := []) (yS217 (yGvOk (by decide))) hI ⟨406, rfl, by decide +kernel⟩ yt0 (by decide +kernel) (by decide +kernel)
theorem yP_X11_watcher {h : zH} (hI : yInv h) (a : Int32) : yGood 60 94 [.inr (.inr 406), .inl a] h := ypub (Q := yQ218) (r0 := 86) (tys := [(1, 0, (-2147483648), 2147483647)]) (yS218 (yGvOk (by decide))) hI ⟨406, rfl, by decide +kernel⟩ (yt1 (yti (x := a) rfl (si32 a)) yt0) (by decide +kernel) (by decide +kernel)
theorem yP_X11_who {h : zH} (hI : yInv h) (a : Int32) (b : Int32) : yGood 60 95 [.inr (.inr 406), .inl a, .inl b] h := ypub (Q := yQ219) (r0 := 86) (tys := [(1, 0, (-2147483648), 2147483647), (2, 0, (-2147483648), 2147483647)]) (yS219 (yGvOk (by decide))) hI ⟨406, rfl, by decide +kernel⟩ (yt1 (yti (x := a) rfl (si32 a)) (yt1 (yti (x := b) rfl (si32 b)) yt0)) (by decide +kernel) (by decide +kernel)
theorem yP_X11_years {h : zH} (hI : yInv h) (a : Int32) (b : Int64) : yGood 60 96 [.inr (.inr 406), .inl a, .inr (.inl b)] h := ypub (Q := yQ220) (r0 := 86) (tys := [(1, 0, (-2147483648), 2147483647), (2, 1, (-9223372036854775808), 9223372036854775807)]) (yS220 (yGvOk (by decide))) hI ⟨406, rfl, by decide +kernel⟩ (yt1 (yti (x := a) rfl (si32 a)) (yt1 (ytlg (x := b) rfl (si64 b)) yt0)) (by decide +kernel) (by decide +kernel)
theorem yP_X12_awake {h : zH} (hI : yInv h) (a : Int32) : yGood 60 102 [.inr (.inr 440), .inl a] h := ypub (Q := yQ285) (r0 := 120) (tys := [(1, 0, (-2147483648), 2147483647)]) (yS285 (yGvOk (by decide)) (yHy_le (by decide) (yHyB (by decide)))) hI ⟨440, rfl, by decide +kernel⟩ (yt1 (yti (x := a) rfl (si32 a)) yt0) (by decide +kernel) (by decide +kernel)
theorem yP_X12_bed {h : zH} (hI : yInv h) (a : Int32) (b : Int32) : yGood 60 106 [.inr (.inr 440), .inl a, .inl b] h := ypub (Q := yQ288) (r0 := 120) (tys := [(1, 0, (-2147483648), 2147483647), (2, 0, (-2147483648), 2147483647)]) (yS288 (yGvOk (by decide)) (yHy_le (by decide) (yHyB (by decide)))) hI ⟨440, rfl, by decide +kernel⟩ (yt1 (yti (x := a) rfl (si32 a)) (yt1 (yti (x := b) rfl (si32 b)) yt0)) (by decide +kernel) (by decide +kernel)
theorem yP_X12_best {h : zH} (hI : yInv h) (a : Int32) (b : Int32) : yGood 60 108 [.inr (.inr 440), .inl a, .inl b] h := ypub (Q := yQ290) (r0 := 120) (tys := [(1, 0, (-2147483648), 2147483647), (2, 0, (-2147483648), 2147483647)]) (yS290 (yGvOk (by decide)) (yHy_le (by decide) (yHyB (by decide)))) hI ⟨440, rfl, by decide +kernel⟩ (yt1 (yti (x := a) rfl (si32 a)) (yt1 (yti (x := b) rfl (si32 b)) yt0)) (by decide +kernel) (by decide +kernel)
theorem yP_X12_count {h : zH} (hI : yInv h) (a : Int32) : yGood 60 115 [.inr (.inr 440), .inl a] h := ypub (Q := yQ336) (r0 := 120) (tys := [(1, 0, (-2147483648), 2147483647)]) (yS336 (yGvOk (by decide))) hI ⟨440, rfl, by decide +kernel⟩ (yt1 (yti (x := a) rfl (si32 a)) yt0) (by decide +kernel) (by decide +kernel)
theorem yP_X12_dream {h : zH} (hI : yInv h) (a : Int32) (b : Int32) : yGood 60 117 [.inr (.inr 440), .inl a, .inl b] h := ypub (Q := yQ338) (r0 := 120) (tys := [(1, 0, (-2147483648), 2147483647), (2, 0, (-2147483648), 2147483647)]) (yS338 (yGvOk (by decide)) (yHy_le (by decide) (yHyB (by decide)))) hI ⟨440, rfl, by decide +kernel⟩ (yt1 (yti (x := a) rfl (si32 a)) (yt1 (yti (x := b) rfl (si32 b)) yt0)) (by decide +kernel) (by decide +kernel)
theorem yP_X12_dull {h : zH} (hI : yInv h) (a : Int32) : yGood 60 119 [.inr (.inr 440), .inl a] h := ypub (Q := yQ339) (r0 := 120) (tys := [(1, 0, (-2147483648), 2147483647)]) (yS339 (yGvOk (by decide)) (yHy_le (by decide) (yHyB (by decide)))) hI ⟨440, rfl, by decide +kernel⟩ (yt1 (yti (x := a) rfl (si32 a)) yt0) (by decide +kernel) (by decide +kernel)
theorem yP_X12_end {h : zH} (hI : yInv h) (a : Int32) : yGood 60 120 [.inr (.inr 440), .inl a] h := ypub (Q := yQ340) (r0 := 120) (tys := [(1, 0, (-2147483648), 2147483647)]) (yS340 (yGvOk (by decide))) hI ⟨440, rfl, by decide +kernel⟩ (yt1 (yti (x := a) rfl (si32 a)) yt0) (by decide +kernel) (by decide +kernel)
theorem yP_X12_fault {h : zH} (hI : yInv h) (a : Int32) : yGood 60 121 [.inr (.inr 440), .inl a] h := ypub (Q := yQ354) (r0 := 120) (tys := [(1, 0, (-2147483648), 2147483647)]) (yS354 (yGvOk (by decide)) (yHy_le (by decide) (yHyB (by decide)))) hI ⟨440, rfl, by decide +kernel⟩ (yt1 (yti (x := a) rfl (si32 a)) yt0) (by decide +kernel) (by decide +kernel)
theorem yP_X12_game {h : zH} (hI : yInv h) (a : Int32) (b : Int32) (c : Int32) (d : Int32) (e : Int32) : yGood 60 124 [.inr (.inr 440), .inl a, .inl b, .inl c, .inl d, .inl e] h := ypub (Q := yQ358) (r0 := 120) (tys := [(1, 0, (-2147483648), 2147483647), (2, 0, (-2147483648), 2147483647), (3, 0, (-2147483648), 2147483647), (4, 0, (-2147483648), 2147483647), (5, 0, (-2147483648), 2147483647)]) (yS358 (yGvOk (by decide)) (yHy_le (by decide) (yHyB (by decide)))) hI ⟨440, rfl, by decide +kernel⟩ (yt1 (yti (x := a) rfl (si32 a)) (yt1 (yti (x := b) rfl (si32 b)) (yt1 (yti (x := c) rfl (si32 c)) (yt1 (yti (x := d) rfl (si32 d)) (yt1 (yti (x := e) rfl (si32 e)) yt0))))) (by decide +kernel) (by decide +kernel)
theorem yP_X12_hourToAsk {h : zH} (hI : yInv h) (a : Int32) : yGood 60 131 [.inr (.inr 440), .inl a] h := ypub (Q := yQ737) (r0 := 120) (tys := [(1, 0, (-2147483648), 2147483647)]) (yS737 (yGvOk (by decide)) (yHy_le (by decide) (yHyB (by decide)))) hI ⟨440, rfl, by decide +kernel⟩ (yt1 (yti (x := a) rfl (si32 a)) yt0) (by decide +kernel) (by decide +kernel)
theorem yP_X12_liars {h : zH} (hI : yInv h) : yGood 60 154 [.inr (.inr 440)] h := ypub (Q := yQ745) (r0 := 120) (tys := []) (yS745 (yGvOk (by decide)) (yHy_le (by decide) (yHyB (by decide)))) hI ⟨440, rfl, by decide +kernel⟩ yt0 (by decide +kernel) (by decide +kernel)
theorem yP_X12_log {h : zH} (hI : yInv h) (a : Int32) (b : Int32) : yGood 60 156 [.inr (.inr 440), .inl a, .inl b] h := ypub (Q := yQ747) (r0 := 120) (tys := [(1, 0, (-2147483648), 2147483647), (2, 0, (-2147483648), 2147483647)]) (yS747 (yGvOk (by decide))) hI ⟨440, rfl, by decide +kernel⟩ (yt1 (yti (x := a) rfl (si32 a)) (yt1 (yti (x := b) rfl (si32 b)) yt0)) (by decide +kernel) (by decide +kernel)
theorem yP_X12_man {h : zH} (hI : yInv h) (a : Int32) (b : Int32) : yGood 60 159 [.inr (.inr 440), .inl a, .inl b] h := ypub (Q := yQ748) (r0 := 120) (tys := [(1, 0, (-2147483648), 2147483647), (2, 0, (-2147483648), 2147483647)]) (yS748 (yGvOk (by decide))) hI ⟨440, rfl, by decide +kernel⟩ (yt1 (yti (x := a) rfl (si32 a)) (yt1 (yti (x := b) rfl (si32 b)) yt0)) (by decide +kernel) (by decide +kernel)
theorem yP_X12_most {h : zH} (hI : yInv h) (a : Int32) : yGood 60 161 [.inr (.inr 440), .inl a] h := ypub (Q := yQ751) (r0 := 120) (tys := [(1, 0, (-2147483648), 2147483647)]) (yS751 (yGvOk (by decide)) (yHy_le (by decide) (yHyB (by decide)))) hI ⟨440, rfl, by decide +kernel⟩ (yt1 (yti (x := a) rfl (si32 a)) yt0) (by decide +kernel) (by decide +kernel)
theorem yP_X12_night {h : zH} (hI : yInv h) (a : Int32) : yGood 60 163 [.inr (.inr 440), .inl a] h := ypub (Q := yQ752) (r0 := 120) (tys := [(1, 0, (-2147483648), 2147483647)]) (yS752 (yGvOk (by decide)) (yHy_le (by decide) (yHyB (by decide)))) hI ⟨440, rfl, by decide +kernel⟩ (yt1 (yti (x := a) rfl (si32 a)) yt0) (by decide +kernel) (by decide +kernel)
theorem yP_X12_nights {h : zH} (hI : yInv h) (a : Int32) : yGood 60 164 [.inr (.inr 440), .inl a] h := ypub (Q := yQ754) (r0 := 120) (tys := [(1, 0, (-2147483648), 2147483647)]) (yS754 (yGvOk (by decide)) (yHy_le (by decide) (yHyB (by decide)))) hI ⟨440, rfl, by decide +kernel⟩ (yt1 (yti (x := a) rfl (si32 a)) yt0) (by decide +kernel) (by decide +kernel)
theorem yP_X12_odds {h : zH} (hI : yInv h) (a : Int32) : yGood 60 166 [.inr (.inr 440), .inl a] h := ypub (Q := yQ755) (r0 := 120) (tys := [(1, 0, (-2147483648), 2147483647)]) (yS755 (yGvOk (by decide)) (yHy_le (by decide) (yHyB (by decide)))) hI ⟨440, rfl, by decide +kernel⟩ (yt1 (yti (x := a) rfl (si32 a)) yt0) (by decide +kernel) (by decide +kernel)
theorem yP_X12_rests {h : zH} (hI : yInv h) (a : Int32) (b : Int32) (c : Int32) : yGood 60 176 [.inr (.inr 440), .inl a, .inl b, .inl c] h := ypub (Q := yQ760) (r0 := 120) (tys := [(1, 0, (-2147483648), 2147483647), (2, 0, (-2147483648), 2147483647), (3, 0, (-2147483648), 2147483647)]) (yS760 (yGvOk (by decide)) (yHy_le (by decide) (yHyB (by decide)))) hI ⟨440, rfl, by decide +kernel⟩ (yt1 (yti (x := a) rfl (si32 a)) (yt1 (yti (x := b) rfl (si32 b)) (yt1 (yti (x := c) rfl (si32 c)) yt0))) (by decide +kernel) (by decide +kernel)
theorem yP_X12_rule {h : zH} (hI : yInv h) (a : Int32) : yGood 60 178 [.inr (.inr 440), .inl a] h := ypub (Q := yQ884) (r0 := 120) (tys := [(1, 0, (-2147483648), 2147483647)]) (yS884 (yGvOk (by decide))) hI ⟨440, rfl, by decide +kernel⟩ (yt1 (yti (x := a) rfl (si32 a)) yt0) (by decide +kernel) (by decide +kernel)
theorem yP_X12_said {h : zH} (hI : yInv h) (a : Int32) (b : Int32) (c : Int32) (hc : 0 ≤ c.toInt ∧ c.toInt ≤ 1) : yGood 60 179 [.inr (.inr 440), .inl a, .inl b, .inl c] h := ypub (Q := yQ885) (r0 := 120) (tys := [(1, 0, (-2147483648), 2147483647), (2, 0, (-2147483648), 2147483647), (3, 0, 0, 1)]) (yS885 (yGvOk (by decide))) hI ⟨440, rfl, by decide +kernel⟩ (yt1 (yti (x := a) rfl (si32 a)) (yt1 (yti (x := b) rfl (si32 b)) (yt1 (yti (x := c) rfl hc) yt0))) (by decide +kernel) (by decide +kernel)
theorem yP_X12_seen {h : zH} (hI : yInv h) (a : Int32) (b : Int32) (c : Int32) (hc : 0 ≤ c.toInt ∧ c.toInt ≤ 1) : yGood 60 180 [.inr (.inr 440), .inl a, .inl b, .inl c] h := ypub (Q := yQ886) (r0 := 120) (tys := [(1, 0, (-2147483648), 2147483647), (2, 0, (-2147483648), 2147483647), (3, 0, 0, 1)]) (yS886 (yGvOk (by decide))) hI ⟨440, rfl, by decide +kernel⟩ (yt1 (yti (x := a) rfl (si32 a)) (yt1 (yti (x := b) rfl (si32 b)) (yt1 (yti (x := c) rfl hc) yt0))) (by decide +kernel) (by decide +kernel)
theorem yP_X12_shares {h : zH} (hI : yInv h) (a : Int32) (b : Int32) : yGood 60 181 [.inr (.inr 440), .inl a, .inl b] h := ypub (Q := yQ887) (r0 := 120) (tys := [(1, 0, (-2147483648), 2147483647), (2, 0, (-2147483648), 2147483647)]) (yS887 (yGvOk (by decide)) (yHy_le (by decide) (yHyB (by decide)))) hI ⟨440, rfl, by decide +kernel⟩ (yt1 (yti (x := a) rfl (si32 a)) (yt1 (yti (x := b) rfl (si32 b)) yt0)) (by decide +kernel) (by decide +kernel)
theorem yP_X12_sleeps {h : zH} (hI : yInv h) (a : Int32) (b : Int32) : yGood 60 182 [.inr (.inr 440), .inl a, .inl b] h := ypub (Q := yQ888) (r0 := 120) (tys := [(1, 0, (-2147483648), 2147483647), (2, 0, (-2147483648), 2147483647)]) (yS888 (yGvOk (by decide)) (yHy_le (by decide) (yHyB (by decide)))) hI ⟨440, rfl, by decide +kernel⟩ (yt1 (yti (x := a) rfl (si32 a)) (yt1 (yti (x := b) rfl (si32 b)) yt0)) (by decide +kernel) (by decide +kernel)
theorem yP_X12_slept {h : zH} (hI : yInv h) (a : Int32) (b : Int32) : yGood 60 183 [.inr (.inr 440), .inl a, .inl b] h := ypub (Q := yQ889) (r0 := 120) (tys := [(1, 0, (-2147483648), 2147483647), (2, 0, (-2147483648), 2147483647)]) (yS889 (yGvOk (by decide)) (yHy_le (by decide) (yHyB (by decide)))) hI ⟨440, rfl, by decide +kernel⟩ (yt1 (yti (x := a) rfl (si32 a)) (yt1 (yti (x := b) rfl (si32 b)) yt0)) (by decide +kernel) (by decide +kernel)
theorem yP_X12_spare {h : zH} (hI : yInv h) (a : Int32) : yGood 60 185 [.inr (.inr 440), .inl a] h := ypub (Q := yQ891) (r0 := 120) (tys := [(1, 0, (-2147483648), 2147483647)]) (yS891 (yGvOk (by decide))) hI ⟨440, rfl, by decide +kernel⟩ (yt1 (yti (x := a) rfl (si32 a)) yt0) (by decide +kernel) (by decide +kernel)
theorem yP_X12_stagger {h : zH} (hI : yInv h) (a : Int32) : yGood 60 186 [.inr (.inr 440), .inl a] h := ypub (Q := yQ899) (r0 := 120) (tys := [(1, 0, (-2147483648), 2147483647)]) (yS899 (yGvOk (by decide))) hI ⟨440, rfl, by decide +kernel⟩ (yt1 (yti (x := a) rfl (si32 a)) yt0) (by decide +kernel) (by decide +kernel)
theorem yP_X12_status {h : zH} (hI : yInv h) (a : Int32) : yGood 60 187 [.inr (.inr 440), .inl a] h := ypub (Q := yQ900) (r0 := 120) (tys := [(1, 0, (-2147483648), 2147483647)]) (yS900 (yGvOk (by decide))) hI ⟨440, rfl, by decide +kernel⟩ (yt1 (yti (x := a) rfl (si32 a)) yt0) (by decide +kernel) (by decide +kernel)
theorem yP_X12_swap {h : zH} (hI : yInv h) (a : Int32) (b : Int32) : yGood 60 190 [.inr (.inr 440), .inl a, .inl b] h := ypub (Q := yQ901) (r0 := 120) (tys := [(1, 0, (-2147483648), 2147483647), (2, 0, (-2147483648), 2147483647)]) (yS901 (yGvOk (by decide)) (yHy_le (by decide) (yHyB (by decide)))) hI ⟨440, rfl, by decide +kernel⟩ (yt1 (yti (x := a) rfl (si32 a)) (yt1 (yti (x := b) rfl (si32 b)) yt0)) (by decide +kernel) (by decide +kernel)
theorem yP_X12_text {h : zH} (hI : yInv h) (a : Int32) : yGood 60 194 [.inr (.inr 440), .inl a] h := ypub (Q := yQ904) (r0 := 120) (tys := [(1, 0, (-2147483648), 2147483647)]) (yS904 (yGvOk (by decide)) (yHy_le (by decide) (yHyB (by decide)))) hI ⟨440, rfl, by decide +kernel⟩ (yt1 (yti (x := a) rfl (si32 a)) yt0) (by decide +kernel) (by decide +kernel)
theorem yP_X12_train {h : zH} (hI : yInv h) (a : Int32) : yGood 60 195 [.inr (.inr 440), .inl a] h := ypub (Q := yQ905) (r0 := 120) (tys := [(1, 0, (-2147483648), 2147483647)]) (yS905 (yGvOk (by decide)) (yHy_le (by decide) (yHyB (by decide)))) hI ⟨440, rfl, by decide +kernel⟩ (yt1 (yti (x := a) rfl (si32 a)) yt0) (by decide +kernel) (by decide +kernel)
theorem yP_X12_watcher {h : zH} (hI : yInv h) (a : Int32) : yGood 60 203 [.inr (.inr 440), .inl a] h := ypub (Q := yQ907) (r0 := 120) (tys := [(1, 0, (-2147483648), 2147483647)]) (yS907 (yGvOk (by decide))) hI ⟨440, rfl, by decide +kernel⟩ (yt1 (yti (x := a) rfl (si32 a)) yt0) (by decide +kernel) (by decide +kernel)
theorem yP_X12_who {h : zH} (hI : yInv h) (a : Int32) (b : Int32) : yGood 60 205 [.inr (.inr 440), .inl a, .inl b] h := ypub (Q := yQ736) (r0 := 120) (tys := [(1, 0, (-2147483648), 2147483647), (2, 0, (-2147483648), 2147483647)]) (yS736 (yGvOk (by decide)) (yHy_le (by decide) (yHyB (by decide)))) hI ⟨440, rfl, by decide +kernel⟩ (yt1 (yti (x := a) rfl (si32 a)) (yt1 (yti (x := b) rfl (si32 b)) yt0)) (by decide +kernel) (by decide +kernel)
theorem yP_X12_years {h : zH} (hI : yInv h) (a : Int32) (b : Int64) : yGood 60 209 [.inr (.inr 440), .inl a, .inr (.inl b)] h := ypub (Q := yQ908) (r0 := 120) (tys := [(1, 0, (-2147483648), 2147483647), (2, 1, (-9223372036854775808), 9223372036854775807)]) (yS908 (yGvOk (by decide)) (yHy_le (by decide) (yHyB (by decide)))) hI ⟨440, rfl, by decide +kernel⟩ (yt1 (yti (x := a) rfl (si32 a)) (yt1 (ytlg (x := b) rfl (si64 b)) yt0)) (by decide +kernel) (by decide +kernel)
