/-! every public method but end, feed and text leaves the tapes and the number of laws -/
noncomputable def r0u : sD := [(40, 0, 99999), (41, 1, 1), (54, 4, 4), (87, 0, 99999), (120, 2, 2), (120, 13, 13)]
noncomputable def r0s (h h' : zH) : Prop := ∀ k i : Nat, (∃ z ∈ r0u, yReg k = z.1 ∧ z.2.1 ≤ (i : Int) ∧ (i : Int) ≤ z.2.2) → h.1 k i = h'.1 k i
theorem r0_fr {md : sD} {h h' : zH} (hF : sF yReg md h h') (hc : yfre md r0u = true) : r0s h h' := fun _ _ hz => yfre_ok hc hF hz
theorem r0_s {h h' : zH} (hG : sG yReg yG h) (hs : r0s h h') (hr : r0 h) : r0 h' := by
  have h0 := gLen hG
  have e1 : h.1 353 1 = h'.1 353 1 := hs 353 1 ⟨(41, 1, 1), List.mem_of_getElem? (i := 1) rfl, by decide +kernel, by decide, by decide⟩
  have e2 : h.1 440 2 = h'.1 440 2 := hs 440 2 ⟨(120, 2, 2), List.mem_of_getElem? (i := 4) rfl, by decide +kernel, by decide, by decide⟩
  have e3 : h.1 374 4 = h'.1 374 4 := hs 374 4 ⟨(54, 4, 4), List.mem_of_getElem? (i := 2) rfl, by decide +kernel, by decide, by decide⟩
  have e4 : h.1 440 13 = h'.1 440 13 := hs 440 13 ⟨(120, 13, 13), List.mem_of_getElem? (i := 5) rfl, by decide +kernel, by decide, by decide⟩
  unfold r0
  rw [← e1, ← e2, ← e3, ← e4]
  refine ⟨hr.1, hr.2.1, fun i hi => ?_⟩
  rw [← hs 352 i ⟨(40, 0, 99999), List.mem_of_getElem? (i := 0) rfl, by decide +kernel, by show (0 : Int) ≤ (i : Int); omega, by show (i : Int) ≤ 99999; omega⟩, ← hs 407 i ⟨(87, 0, 99999), List.mem_of_getElem? (i := 3) rfl, by decide +kernel, by show (0 : Int) ≤ (i : Int); omega, by show (i : Int) ≤ 99999; omega⟩]
  exact hr.2.2 i hi
noncomputable def zGood (d mid : Nat) (args : List zV) (h : zH) : Prop := ∃ m x h', yrun m d mid args h = some (some (.inl x), h') ∧ yInv h' ∧ r0s h h'
theorem zpub {Q : sQ} {r0 : Nat} {tys : List (Nat × Nat × Int × Int)} {args : List zV} {h : zH} {d : Nat} (hS : ySum yG0 Q) (hI : yInv h) (hrf : ∃ k, zget (zent 0 args) 0 = some (.inr (.inr k)) ∧ yReg k = r0) (hty : ∀ z ∈ tys, ytyp args z) (hc : (yTok r0 tys yGs yKs Q && yfre Q.2.2.2.1 r0u) = true) (hd : Q.2.2.2.2 ≤ d) : zGood d Q.1 args h := by
  rw [Bool.and_eq_true] at hc
  obtain ⟨m, x, h', r1, r2, r3⟩ := ytop (by decide) hS hI hrf hty (yGs_ok hI) (yKs_ok hI) hc.1 hd
  exact ⟨m, x, h', r1, r2, r0_fr r3 hc.2⟩
theorem zP_X11_awake {h : zH} (hI : yInv h) (a : Int32) : zGood 60 36 [.inr (.inr 406), .inl a] h := zpub (Q := yQ63) (r0 := 86) (tys := [(1, 0, (-2147483648), 2147483647)]) (yS63 (yGvOk (by decide))) hI ⟨406, rfl, by decide +kernel⟩ (yt1 (yti (x := a) rfl (si32 a)) yt0) (by decide +kernel) (by decide +kernel)
theorem zP_X11_back {h : zH} (hI : yInv h) : zGood 60 37 [.inr (.inr 406)] h := zpub (Q := yQ65) (r0 := 86) (tys := []) (yS65 (yGvOk (by decide))) hI ⟨406, rfl, by decide +kernel⟩ yt0 (by decide +kernel) (by decide +kernel)
theorem zP_X11_bed {h : zH} (hI : yInv h) (a : Int32) (b : Int32) : zGood 60 38 [.inr (.inr 406), .inl a, .inl b] h := zpub (Q := yQ67) (r0 := 86) (tys := [(1, 0, (-2147483648), 2147483647), (2, 0, (-2147483648), 2147483647)]) (yS67 (yGvOk (by decide))) hI ⟨406, rfl, by decide +kernel⟩ (yt1 (yti (x := a) rfl (si32 a)) (yt1 (yti (x := b) rfl (si32 b)) yt0)) (by decide +kernel) (by decide +kernel)
theorem zP_X11_best {h : zH} (hI : yInv h) (a : Int32) (b : Int32) : zGood 60 40 [.inr (.inr 406), .inl a, .inl b] h := zpub (Q := yQ77) (r0 := 86) (tys := [(1, 0, (-2147483648), 2147483647), (2, 0, (-2147483648), 2147483647)]) (yS77 (yGvOk (by decide))) hI ⟨406, rfl, by decide +kernel⟩ (yt1 (yti (x := a) rfl (si32 a)) (yt1 (yti (x := b) rfl (si32 b)) yt0)) (by decide +kernel) (by decide +kernel)
theorem zP_X11_count {h : zH} (hI : yInv h) (a : Int32) : zGood 60 42 [.inr (.inr 406), .inl a] h := zpub (Q := yQ82) (r0 := 86) (tys := [(1, 0, (-2147483648), 2147483647)]) (yS82 (yGvOk (by decide))) hI ⟨406, rfl, by decide +kernel⟩ (yt1 (yti (x := a) rfl (si32 a)) yt0) (by decide +kernel) (by decide +kernel)
theorem zP_X11_dream {h : zH} (hI : yInv h) (a : Int32) (b : Int32) : zGood 60 47 [.inr (.inr 406), .inl a, .inl b] h := zpub (Q := yQ87) (r0 := 86) (tys := [(1, 0, (-2147483648), 2147483647), (2, 0, (-2147483648), 2147483647)]) (yS87 (yGvOk (by decide))) hI ⟨406, rfl, by decide +kernel⟩ (yt1 (yti (x := a) rfl (si32 a)) (yt1 (yti (x := b) rfl (si32 b)) yt0)) (by decide +kernel) (by decide +kernel)
theorem zP_X11_dull {h : zH} (hI : yInv h) (a : Int32) : zGood 60 48 [.inr (.inr 406), .inl a] h := zpub (Q := yQ88) (r0 := 86) (tys := [(1, 0, (-2147483648), 2147483647)]) (yS88 (yGvOk (by decide))) hI ⟨406, rfl, by decide +kernel⟩ (yt1 (yti (x := a) rfl (si32 a)) yt0) (by decide +kernel) (by decide +kernel)
theorem zP_X11_fault {h : zH} (hI : yInv h) (a : Int32) : zGood 60 51 [.inr (.inr 406), .inl a] h := zpub (Q := yQ149) (r0 := 86) (tys := [(1, 0, (-2147483648), 2147483647)]) (yS149 (yGvOk (by decide))) hI ⟨406, rfl, by decide +kernel⟩ (yt1 (yti (x := a) rfl (si32 a)) yt0) (by decide +kernel) (by decide +kernel)
theorem zP_X11_game {h : zH} (hI : yInv h) (a : Int32) (b : Int32) (c : Int32) (d : Int32) (e : Int32) : zGood 60 54 [.inr (.inr 406), .inl a, .inl b, .inl c, .inl d, .inl e] h := zpub (Q := yQ154) (r0 := 86) (tys := [(1, 0, (-2147483648), 2147483647), (2, 0, (-2147483648), 2147483647), (3, 0, (-2147483648), 2147483647), (4, 0, (-2147483648), 2147483647), (5, 0, (-2147483648), 2147483647)]) (yS154 (yGvOk (by decide))) hI ⟨406, rfl, by decide +kernel⟩ (yt1 (yti (x := a) rfl (si32 a)) (yt1 (yti (x := b) rfl (si32 b)) (yt1 (yti (x := c) rfl (si32 c)) (yt1 (yti (x := d) rfl (si32 d)) (yt1 (yti (x := e) rfl (si32 e)) yt0))))) (by decide +kernel) (by decide +kernel)
theorem zP_X11_hourToAsk {h : zH} (hI : yInv h) (a : Int32) : zGood 60 56 [.inr (.inr 406), .inl a] h := zpub (Q := yQ162) (r0 := 86) (tys := [(1, 0, (-2147483648), 2147483647)]) (yS162 (yGvOk (by decide))) hI ⟨406, rfl, by decide +kernel⟩ (yt1 (yti (x := a) rfl (si32 a)) yt0) (by decide +kernel) (by decide +kernel)
theorem zP_X11_image {h : zH} (hI : yInv h) : zGood 60 57 [.inr (.inr 406)] h := zpub (Q := yQ164) (r0 := 86) (tys := []) (yS164 (yGvOk (by decide))) hI ⟨406, rfl, by decide +kernel⟩ yt0 (by decide +kernel) (by decide +kernel)
theorem zP_X11_law {h : zH} (hI : yInv h) (a : Int32) : zGood 60 60 [.inr (.inr 406), .inl a] h := zpub (Q := yQ165) (r0 := 86) (tys := [(1, 0, (-2147483648), 2147483647)]) (yS165 (yGvOk (by decide))) hI ⟨406, rfl, by decide +kernel⟩ (yt1 (yti (x := a) rfl (si32 a)) yt0) (by decide +kernel) (by decide +kernel)
theorem zP_X11_liars {h : zH} (hI : yInv h) : zGood 60 63 [.inr (.inr 406)] h := zpub (Q := yQ169) (r0 := 86) (tys := []) (yS169 (yGvOk (by decide))) hI ⟨406, rfl, by decide +kernel⟩ yt0 (by decide +kernel) (by decide +kernel)
theorem zP_X11_log {h : zH} (hI : yInv h) (a : Int32) (b : Int32) : zGood 60 64 [.inr (.inr 406), .inl a, .inl b] h := zpub (Q := yQ170) (r0 := 86) (tys := [(1, 0, (-2147483648), 2147483647), (2, 0, (-2147483648), 2147483647)]) (yS170 (yGvOk (by decide))) hI ⟨406, rfl, by decide +kernel⟩ (yt1 (yti (x := a) rfl (si32 a)) (yt1 (yti (x := b) rfl (si32 b)) yt0)) (by decide +kernel) (by decide +kernel)
theorem zP_X11_most {h : zH} (hI : yInv h) (a : Int32) : zGood 60 67 [.inr (.inr 406), .inl a] h := zpub (Q := yQ177) (r0 := 86) (tys := [(1, 0, (-2147483648), 2147483647)]) (yS177 (yGvOk (by decide))) hI ⟨406, rfl, by decide +kernel⟩ (yt1 (yti (x := a) rfl (si32 a)) yt0) (by decide +kernel) (by decide +kernel)
theorem zP_X11_night {h : zH} (hI : yInv h) (a : Int32) : zGood 60 68 [.inr (.inr 406), .inl a] h := zpub (Q := yQ180) (r0 := 86) (tys := [(1, 0, (-2147483648), 2147483647)]) (yS180 (yGvOk (by decide))) hI ⟨406, rfl, by decide +kernel⟩ (yt1 (yti (x := a) rfl (si32 a)) yt0) (by decide +kernel) (by decide +kernel)
theorem zP_X11_nights {h : zH} (hI : yInv h) (a : Int32) : zGood 60 70 [.inr (.inr 406), .inl a] h := zpub (Q := yQ183) (r0 := 86) (tys := [(1, 0, (-2147483648), 2147483647)]) (yS183 (yGvOk (by decide))) hI ⟨406, rfl, by decide +kernel⟩ (yt1 (yti (x := a) rfl (si32 a)) yt0) (by decide +kernel) (by decide +kernel)
theorem zP_X11_odds {h : zH} (hI : yInv h) (a : Int32) : zGood 60 72 [.inr (.inr 406), .inl a] h := zpub (Q := yQ184) (r0 := 86) (tys := [(1, 0, (-2147483648), 2147483647)]) (yS184 (yGvOk (by decide))) hI ⟨406, rfl, by decide +kernel⟩ (yt1 (yti (x := a) rfl (si32 a)) yt0) (by decide +kernel) (by decide +kernel)
theorem zP_X11_rests {h : zH} (hI : yInv h) (a : Int32) (b : Int32) (c : Int32) : zGood 60 76 [.inr (.inr 406), .inl a, .inl b, .inl c] h := zpub (Q := yQ187) (r0 := 86) (tys := [(1, 0, (-2147483648), 2147483647), (2, 0, (-2147483648), 2147483647), (3, 0, (-2147483648), 2147483647)]) (yS187 (yGvOk (by decide))) hI ⟨406, rfl, by decide +kernel⟩ (yt1 (yti (x := a) rfl (si32 a)) (yt1 (yti (x := b) rfl (si32 b)) (yt1 (yti (x := c) rfl (si32 c)) yt0))) (by decide +kernel) (by decide +kernel)
theorem zP_X11_ring {h : zH} (hI : yInv h) (a : Int32) : zGood 60 78 [.inr (.inr 406), .inl a] h := zpub (Q := yQ188) (r0 := 86) (tys := [(1, 0, (-2147483648), 2147483647)]) (yS188 (yGvOk (by decide))) hI ⟨406, rfl, by decide +kernel⟩ (yt1 (yti (x := a) rfl (si32 a)) yt0) (by decide +kernel) (by decide +kernel)
theorem zP_X11_rule {h : zH} (hI : yInv h) (a : Int32) : zGood 60 79 [.inr (.inr 406), .inl a] h := zpub (Q := yQ189) (r0 := 86) (tys := [(1, 0, (-2147483648), 2147483647)]) (yS189 (yGvOk (by decide))) hI ⟨406, rfl, by decide +kernel⟩ (yt1 (yti (x := a) rfl (si32 a)) yt0) (by decide +kernel) (by decide +kernel)
theorem zP_X11_said {h : zH} (hI : yInv h) (a : Int32) (b : Int32) (c : Int32) (hc : 0 ≤ c.toInt ∧ c.toInt ≤ 1) : zGood 60 80 [.inr (.inr 406), .inl a, .inl b, .inl c] h := zpub (Q := yQ191) (r0 := 86) (tys := [(1, 0, (-2147483648), 2147483647), (2, 0, (-2147483648), 2147483647), (3, 0, 0, 1)]) (yS191 (yGvOk (by decide))) hI ⟨406, rfl, by decide +kernel⟩ (yt1 (yti (x := a) rfl (si32 a)) (yt1 (yti (x := b) rfl (si32 b)) (yt1 (yti (x := c) rfl hc) yt0))) (by decide +kernel) (by decide +kernel)
theorem zP_X11_seen {h : zH} (hI : yInv h) (a : Int32) (b : Int32) (c : Int32) (hc : 0 ≤ c.toInt ∧ c.toInt ≤ 1) : zGood 60 81 [.inr (.inr 406), .inl a, .inl b, .inl c] h := zpub (Q := yQ193) (r0 := 86) (tys := [(1, 0, (-2147483648), 2147483647), (2, 0, (-2147483648), 2147483647), (3, 0, 0, 1)]) (yS193 (yGvOk (by decide))) hI ⟨406, rfl, by decide +kernel⟩ (yt1 (yti (x := a) rfl (si32 a)) (yt1 (yti (x := b) rfl (si32 b)) (yt1 (yti (x := c) rfl hc) yt0))) (by decide +kernel) (by decide +kernel)
theorem zP_X11_shares {h : zH} (hI : yInv h) (a : Int32) (b : Int32) : zGood 60 82 [.inr (.inr 406), .inl a, .inl b] h := zpub (Q := yQ195) (r0 := 86) (tys := [(1, 0, (-2147483648), 2147483647), (2, 0, (-2147483648), 2147483647)]) (yS195 (yGvOk (by decide))) hI ⟨406, rfl, by decide +kernel⟩ (yt1 (yti (x := a) rfl (si32 a)) (yt1 (yti (x := b) rfl (si32 b)) yt0)) (by decide +kernel) (by decide +kernel)
theorem zP_X11_sleeps {h : zH} (hI : yInv h) (a : Int32) (b : Int32) : zGood 60 83 [.inr (.inr 406), .inl a, .inl b] h := zpub (Q := yQ196) (r0 := 86) (tys := [(1, 0, (-2147483648), 2147483647), (2, 0, (-2147483648), 2147483647)]) (yS196 (yGvOk (by decide))) hI ⟨406, rfl, by decide +kernel⟩ (yt1 (yti (x := a) rfl (si32 a)) (yt1 (yti (x := b) rfl (si32 b)) yt0)) (by decide +kernel) (by decide +kernel)
theorem zP_X11_slept {h : zH} (hI : yInv h) (a : Int32) (b : Int32) : zGood 60 84 [.inr (.inr 406), .inl a, .inl b] h := zpub (Q := yQ197) (r0 := 86) (tys := [(1, 0, (-2147483648), 2147483647), (2, 0, (-2147483648), 2147483647)]) (yS197 (yGvOk (by decide))) hI ⟨406, rfl, by decide +kernel⟩ (yt1 (yti (x := a) rfl (si32 a)) (yt1 (yti (x := b) rfl (si32 b)) yt0)) (by decide +kernel) (by decide +kernel)
theorem zP_X11_spare {h : zH} (hI : yInv h) (a : Int32) : zGood 60 86 [.inr (.inr 406), .inl a] h := zpub (Q := yQ199) (r0 := 86) (tys := [(1, 0, (-2147483648), 2147483647)]) (yS199 (yGvOk (by decide))) hI ⟨406, rfl, by decide +kernel⟩ (yt1 (yti (x := a) rfl (si32 a)) yt0) (by decide +kernel) (by decide +kernel)
theorem zP_X11_stagger {h : zH} (hI : yInv h) (a : Int32) : zGood 60 87 [.inr (.inr 406), .inl a] h := zpub (Q := yQ210) (r0 := 86) (tys := [(1, 0, (-2147483648), 2147483647)]) (yS210 (yGvOk (by decide))) hI ⟨406, rfl, by decide +kernel⟩ (yt1 (yti (x := a) rfl (si32 a)) yt0) (by decide +kernel) (by decide +kernel)
theorem zP_X11_status {h : zH} (hI : yInv h) (a : Int32) : zGood 60 88 [.inr (.inr 406), .inl a] h := zpub (Q := yQ211) (r0 := 86) (tys := [(1, 0, (-2147483648), 2147483647)]) (yS211 (yGvOk (by decide))) hI ⟨406, rfl, by decide +kernel⟩ (yt1 (yti (x := a) rfl (si32 a)) yt0) (by decide +kernel) (by decide +kernel)
theorem zP_X11_swap {h : zH} (hI : yInv h) (a : Int32) (b : Int32) : zGood 60 90 [.inr (.inr 406), .inl a, .inl b] h := zpub (Q := yQ212) (r0 := 86) (tys := [(1, 0, (-2147483648), 2147483647), (2, 0, (-2147483648), 2147483647)]) (yS212 (yGvOk (by decide))) hI ⟨406, rfl, by decide +kernel⟩ (yt1 (yti (x := a) rfl (si32 a)) (yt1 (yti (x := b) rfl (si32 b)) yt0)) (by decide +kernel) (by decide +kernel)
theorem zP_X11_train {h : zH} (hI : yInv h) (a : Int32) : zGood 60 92 [.inr (.inr 406), .inl a] h := zpub (Q := yQ216) (r0 := 86) (tys := [(1, 0, (-2147483648), 2147483647)]) (yS216 (yGvOk (by decide))) hI ⟨406, rfl, by decide +kernel⟩ (yt1 (yti (x := a) rfl (si32 a)) yt0) (by decide +kernel) (by decide +kernel)
theorem zP_X11_undo {h : zH} (hI : yInv h) : zGood 60 93 [.inr (.inr 406)] h := zpub (Q := yQ217) (r0 := 86) (tys := []) (yS217 (yGvOk (by decide))) hI ⟨406, rfl, by decide +kernel⟩ yt0 (by decide +kernel) (by decide +kernel)
theorem zP_X11_watcher {h : zH} (hI : yInv h) (a : Int32) : zGood 60 94 [.inr (.inr 406), .inl a] h := zpub (Q := yQ218) (r0 := 86) (tys := [(1, 0, (-2147483648), 2147483647)]) (yS218 (yGvOk (by decide))) hI ⟨406, rfl, by decide +kernel⟩ (yt1 (yti (x := a) rfl (si32 a)) yt0) (by decide +kernel) (by decide +kernel)
theorem zP_X11_who {h : zH} (hI : yInv h) (a : Int32) (b : Int32) : zGood 60 95 [.inr (.inr 406), .inl a, .inl b] h := zpub (Q := yQ219) (r0 := 86) (tys := [(1, 0, (-2147483648), 2147483647), (2, 0, (-2147483648), 2147483647)]) (yS219 (yGvOk (by decide))) hI ⟨406, rfl, by decide +kernel⟩ (yt1 (yti (x := a) rfl (si32 a)) (yt1 (yti (x := b) rfl (si32 b)) yt0)) (by decide +kernel) (by decide +kernel)
theorem zP_X11_years {h : zH} (hI : yInv h) (a : Int32) (b : Int64) : zGood 60 96 [.inr (.inr 406), .inl a, .inr (.inl b)] h := zpub (Q := yQ220) (r0 := 86) (tys := [(1, 0, (-2147483648), 2147483647), (2, 1, (-9223372036854775808), 9223372036854775807)]) (yS220 (yGvOk (by decide))) hI ⟨406, rfl, by decide +kernel⟩ (yt1 (yti (x := a) rfl (si32 a)) (yt1 (ytlg (x := b) rfl (si64 b)) yt0)) (by decide +kernel) (by decide +kernel)
theorem zP_X12_awake {h : zH} (hI : yInv h) (a : Int32) : zGood 60 102 [.inr (.inr 440), .inl a] h := zpub (Q := yQ285) (r0 := 120) (tys := [(1, 0, (-2147483648), 2147483647)]) (yS285 (yGvOk (by decide)) (yHy_le (by decide) (yHyB (by decide)))) hI ⟨440, rfl, by decide +kernel⟩ (yt1 (yti (x := a) rfl (si32 a)) yt0) (by decide +kernel) (by decide +kernel)
theorem zP_X12_bed {h : zH} (hI : yInv h) (a : Int32) (b : Int32) : zGood 60 106 [.inr (.inr 440), .inl a, .inl b] h := zpub (Q := yQ288) (r0 := 120) (tys := [(1, 0, (-2147483648), 2147483647), (2, 0, (-2147483648), 2147483647)]) (yS288 (yGvOk (by decide)) (yHy_le (by decide) (yHyB (by decide)))) hI ⟨440, rfl, by decide +kernel⟩ (yt1 (yti (x := a) rfl (si32 a)) (yt1 (yti (x := b) rfl (si32 b)) yt0)) (by decide +kernel) (by decide +kernel)
theorem zP_X12_best {h : zH} (hI : yInv h) (a : Int32) (b : Int32) : zGood 60 108 [.inr (.inr 440), .inl a, .inl b] h := zpub (Q := yQ290) (r0 := 120) (tys := [(1, 0, (-2147483648), 2147483647), (2, 0, (-2147483648), 2147483647)]) (yS290 (yGvOk (by decide)) (yHy_le (by decide) (yHyB (by decide)))) hI ⟨440, rfl, by decide +kernel⟩ (yt1 (yti (x := a) rfl (si32 a)) (yt1 (yti (x := b) rfl (si32 b)) yt0)) (by decide +kernel) (by decide +kernel)
theorem zP_X12_count {h : zH} (hI : yInv h) (a : Int32) : zGood 60 115 [.inr (.inr 440), .inl a] h := zpub (Q := yQ336) (r0 := 120) (tys := [(1, 0, (-2147483648), 2147483647)]) (yS336 (yGvOk (by decide))) hI ⟨440, rfl, by decide +kernel⟩ (yt1 (yti (x := a) rfl (si32 a)) yt0) (by decide +kernel) (by decide +kernel)
theorem zP_X12_dream {h : zH} (hI : yInv h) (a : Int32) (b : Int32) : zGood 60 117 [.inr (.inr 440), .inl a, .inl b] h := zpub (Q := yQ338) (r0 := 120) (tys := [(1, 0, (-2147483648), 2147483647), (2, 0, (-2147483648), 2147483647)]) (yS338 (yGvOk (by decide)) (yHy_le (by decide) (yHyB (by decide)))) hI ⟨440, rfl, by decide +kernel⟩ (yt1 (yti (x := a) rfl (si32 a)) (yt1 (yti (x := b) rfl (si32 b)) yt0)) (by decide +kernel) (by decide +kernel)
theorem zP_X12_dull {h : zH} (hI : yInv h) (a : Int32) : zGood 60 119 [.inr (.inr 440), .inl a] h := zpub (Q := yQ339) (r0 := 120) (tys := [(1, 0, (-2147483648), 2147483647)]) (yS339 (yGvOk (by decide)) (yHy_le (by decide) (yHyB (by decide)))) hI ⟨440, rfl, by decide +kernel⟩ (yt1 (yti (x := a) rfl (si32 a)) yt0) (by decide +kernel) (by decide +kernel)
theorem zP_X12_fault {h : zH} (hI : yInv h) (a : Int32) : zGood 60 121 [.inr (.inr 440), .inl a] h := zpub (Q := yQ354) (r0 := 120) (tys := [(1, 0, (-2147483648), 2147483647)]) (yS354 (yGvOk (by decide)) (yHy_le (by decide) (yHyB (by decide)))) hI ⟨440, rfl, by decide +kernel⟩ (yt1 (yti (x := a) rfl (si32 a)) yt0) (by decide +kernel) (by decide +kernel)
theorem zP_X12_game {h : zH} (hI : yInv h) (a : Int32) (b : Int32) (c : Int32) (d : Int32) (e : Int32) : zGood 60 124 [.inr (.inr 440), .inl a, .inl b, .inl c, .inl d, .inl e] h := zpub (Q := yQ358) (r0 := 120) (tys := [(1, 0, (-2147483648), 2147483647), (2, 0, (-2147483648), 2147483647), (3, 0, (-2147483648), 2147483647), (4, 0, (-2147483648), 2147483647), (5, 0, (-2147483648), 2147483647)]) (yS358 (yGvOk (by decide)) (yHy_le (by decide) (yHyB (by decide)))) hI ⟨440, rfl, by decide +kernel⟩ (yt1 (yti (x := a) rfl (si32 a)) (yt1 (yti (x := b) rfl (si32 b)) (yt1 (yti (x := c) rfl (si32 c)) (yt1 (yti (x := d) rfl (si32 d)) (yt1 (yti (x := e) rfl (si32 e)) yt0))))) (by decide +kernel) (by decide +kernel)
theorem zP_X12_hourToAsk {h : zH} (hI : yInv h) (a : Int32) : zGood 60 131 [.inr (.inr 440), .inl a] h := zpub (Q := yQ737) (r0 := 120) (tys := [(1, 0, (-2147483648), 2147483647)]) (yS737 (yGvOk (by decide)) (yHy_le (by decide) (yHyB (by decide)))) hI ⟨440, rfl, by decide +kernel⟩ (yt1 (yti (x := a) rfl (si32 a)) yt0) (by decide +kernel) (by decide +kernel)
theorem zP_X12_liars {h : zH} (hI : yInv h) : zGood 60 154 [.inr (.inr 440)] h := zpub (Q := yQ745) (r0 := 120) (tys := []) (yS745 (yGvOk (by decide)) (yHy_le (by decide) (yHyB (by decide)))) hI ⟨440, rfl, by decide +kernel⟩ yt0 (by decide +kernel) (by decide +kernel)
theorem zP_X12_log {h : zH} (hI : yInv h) (a : Int32) (b : Int32) : zGood 60 156 [.inr (.inr 440), .inl a, .inl b] h := zpub (Q := yQ747) (r0 := 120) (tys := [(1, 0, (-2147483648), 2147483647), (2, 0, (-2147483648), 2147483647)]) (yS747 (yGvOk (by decide))) hI ⟨440, rfl, by decide +kernel⟩ (yt1 (yti (x := a) rfl (si32 a)) (yt1 (yti (x := b) rfl (si32 b)) yt0)) (by decide +kernel) (by decide +kernel)
theorem zP_X12_man {h : zH} (hI : yInv h) (a : Int32) (b : Int32) : zGood 60 159 [.inr (.inr 440), .inl a, .inl b] h := zpub (Q := yQ748) (r0 := 120) (tys := [(1, 0, (-2147483648), 2147483647), (2, 0, (-2147483648), 2147483647)]) (yS748 (yGvOk (by decide))) hI ⟨440, rfl, by decide +kernel⟩ (yt1 (yti (x := a) rfl (si32 a)) (yt1 (yti (x := b) rfl (si32 b)) yt0)) (by decide +kernel) (by decide +kernel)
theorem zP_X12_most {h : zH} (hI : yInv h) (a : Int32) : zGood 60 161 [.inr (.inr 440), .inl a] h := zpub (Q := yQ751) (r0 := 120) (tys := [(1, 0, (-2147483648), 2147483647)]) (yS751 (yGvOk (by decide)) (yHy_le (by decide) (yHyB (by decide)))) hI ⟨440, rfl, by decide +kernel⟩ (yt1 (yti (x := a) rfl (si32 a)) yt0) (by decide +kernel) (by decide +kernel)
theorem zP_X12_night {h : zH} (hI : yInv h) (a : Int32) : zGood 60 163 [.inr (.inr 440), .inl a] h := zpub (Q := yQ752) (r0 := 120) (tys := [(1, 0, (-2147483648), 2147483647)]) (yS752 (yGvOk (by decide)) (yHy_le (by decide) (yHyB (by decide)))) hI ⟨440, rfl, by decide +kernel⟩ (yt1 (yti (x := a) rfl (si32 a)) yt0) (by decide +kernel) (by decide +kernel)
theorem zP_X12_nights {h : zH} (hI : yInv h) (a : Int32) : zGood 60 164 [.inr (.inr 440), .inl a] h := zpub (Q := yQ754) (r0 := 120) (tys := [(1, 0, (-2147483648), 2147483647)]) (yS754 (yGvOk (by decide)) (yHy_le (by decide) (yHyB (by decide)))) hI ⟨440, rfl, by decide +kernel⟩ (yt1 (yti (x := a) rfl (si32 a)) yt0) (by decide +kernel) (by decide +kernel)
theorem zP_X12_odds {h : zH} (hI : yInv h) (a : Int32) : zGood 60 166 [.inr (.inr 440), .inl a] h := zpub (Q := yQ755) (r0 := 120) (tys := [(1, 0, (-2147483648), 2147483647)]) (yS755 (yGvOk (by decide)) (yHy_le (by decide) (yHyB (by decide)))) hI ⟨440, rfl, by decide +kernel⟩ (yt1 (yti (x := a) rfl (si32 a)) yt0) (by decide +kernel) (by decide +kernel)
theorem zP_X12_rests {h : zH} (hI : yInv h) (a : Int32) (b : Int32) (c : Int32) : zGood 60 176 [.inr (.inr 440), .inl a, .inl b, .inl c] h := zpub (Q := yQ760) (r0 := 120) (tys := [(1, 0, (-2147483648), 2147483647), (2, 0, (-2147483648), 2147483647), (3, 0, (-2147483648), 2147483647)]) (yS760 (yGvOk (by decide)) (yHy_le (by decide) (yHyB (by decide)))) hI ⟨440, rfl, by decide +kernel⟩ (yt1 (yti (x := a) rfl (si32 a)) (yt1 (yti (x := b) rfl (si32 b)) (yt1 (yti (x := c) rfl (si32 c)) yt0))) (by decide +kernel) (by decide +kernel)
theorem zP_X12_rule {h : zH} (hI : yInv h) (a : Int32) : zGood 60 178 [.inr (.inr 440), .inl a] h := zpub (Q := yQ884) (r0 := 120) (tys := [(1, 0, (-2147483648), 2147483647)]) (yS884 (yGvOk (by decide))) hI ⟨440, rfl, by decide +kernel⟩ (yt1 (yti (x := a) rfl (si32 a)) yt0) (by decide +kernel) (by decide +kernel)
theorem zP_X12_said {h : zH} (hI : yInv h) (a : Int32) (b : Int32) (c : Int32) (hc : 0 ≤ c.toInt ∧ c.toInt ≤ 1) : zGood 60 179 [.inr (.inr 440), .inl a, .inl b, .inl c] h := zpub (Q := yQ885) (r0 := 120) (tys := [(1, 0, (-2147483648), 2147483647), (2, 0, (-2147483648), 2147483647), (3, 0, 0, 1)]) (yS885 (yGvOk (by decide))) hI ⟨440, rfl, by decide +kernel⟩ (yt1 (yti (x := a) rfl (si32 a)) (yt1 (yti (x := b) rfl (si32 b)) (yt1 (yti (x := c) rfl hc) yt0))) (by decide +kernel) (by decide +kernel)
theorem zP_X12_seen {h : zH} (hI : yInv h) (a : Int32) (b : Int32) (c : Int32) (hc : 0 ≤ c.toInt ∧ c.toInt ≤ 1) : zGood 60 180 [.inr (.inr 440), .inl a, .inl b, .inl c] h := zpub (Q := yQ886) (r0 := 120) (tys := [(1, 0, (-2147483648), 2147483647), (2, 0, (-2147483648), 2147483647), (3, 0, 0, 1)]) (yS886 (yGvOk (by decide))) hI ⟨440, rfl, by decide +kernel⟩ (yt1 (yti (x := a) rfl (si32 a)) (yt1 (yti (x := b) rfl (si32 b)) (yt1 (yti (x := c) rfl hc) yt0))) (by decide +kernel) (by decide +kernel)
theorem zP_X12_shares {h : zH} (hI : yInv h) (a : Int32) (b : Int32) : zGood 60 181 [.inr (.inr 440), .inl a, .inl b] h := zpub (Q := yQ887) (r0 := 120) (tys := [(1, 0, (-2147483648), 2147483647), (2, 0, (-2147483648), 2147483647)]) (yS887 (yGvOk (by decide)) (yHy_le (by decide) (yHyB (by decide)))) hI ⟨440, rfl, by decide +kernel⟩ (yt1 (yti (x := a) rfl (si32 a)) (yt1 (yti (x := b) rfl (si32 b)) yt0)) (by decide +kernel) (by decide +kernel)
theorem zP_X12_sleeps {h : zH} (hI : yInv h) (a : Int32) (b : Int32) : zGood 60 182 [.inr (.inr 440), .inl a, .inl b] h := zpub (Q := yQ888) (r0 := 120) (tys := [(1, 0, (-2147483648), 2147483647), (2, 0, (-2147483648), 2147483647)]) (yS888 (yGvOk (by decide)) (yHy_le (by decide) (yHyB (by decide)))) hI ⟨440, rfl, by decide +kernel⟩ (yt1 (yti (x := a) rfl (si32 a)) (yt1 (yti (x := b) rfl (si32 b)) yt0)) (by decide +kernel) (by decide +kernel)
theorem zP_X12_slept {h : zH} (hI : yInv h) (a : Int32) (b : Int32) : zGood 60 183 [.inr (.inr 440), .inl a, .inl b] h := zpub (Q := yQ889) (r0 := 120) (tys := [(1, 0, (-2147483648), 2147483647), (2, 0, (-2147483648), 2147483647)]) (yS889 (yGvOk (by decide)) (yHy_le (by decide) (yHyB (by decide)))) hI ⟨440, rfl, by decide +kernel⟩ (yt1 (yti (x := a) rfl (si32 a)) (yt1 (yti (x := b) rfl (si32 b)) yt0)) (by decide +kernel) (by decide +kernel)
theorem zP_X12_spare {h : zH} (hI : yInv h) (a : Int32) : zGood 60 185 [.inr (.inr 440), .inl a] h := zpub (Q := yQ891) (r0 := 120) (tys := [(1, 0, (-2147483648), 2147483647)]) (yS891 (yGvOk (by decide))) hI ⟨440, rfl, by decide +kernel⟩ (yt1 (yti (x := a) rfl (si32 a)) yt0) (by decide +kernel) (by decide +kernel)
theorem zP_X12_stagger {h : zH} (hI : yInv h) (a : Int32) : zGood 60 186 [.inr (.inr 440), .inl a] h := zpub (Q := yQ899) (r0 := 120) (tys := [(1, 0, (-2147483648), 2147483647)]) (yS899 (yGvOk (by decide))) hI ⟨440, rfl, by decide +kernel⟩ (yt1 (yti (x := a) rfl (si32 a)) yt0) (by decide +kernel) (by decide +kernel)
theorem zP_X12_status {h : zH} (hI : yInv h) (a : Int32) : zGood 60 187 [.inr (.inr 440), .inl a] h := zpub (Q := yQ900) (r0 := 120) (tys := [(1, 0, (-2147483648), 2147483647)]) (yS900 (yGvOk (by decide))) hI ⟨440, rfl, by decide +kernel⟩ (yt1 (yti (x := a) rfl (si32 a)) yt0) (by decide +kernel) (by decide +kernel)
theorem zP_X12_swap {h : zH} (hI : yInv h) (a : Int32) (b : Int32) : zGood 60 190 [.inr (.inr 440), .inl a, .inl b] h := zpub (Q := yQ901) (r0 := 120) (tys := [(1, 0, (-2147483648), 2147483647), (2, 0, (-2147483648), 2147483647)]) (yS901 (yGvOk (by decide)) (yHy_le (by decide) (yHyB (by decide)))) hI ⟨440, rfl, by decide +kernel⟩ (yt1 (yti (x := a) rfl (si32 a)) (yt1 (yti (x := b) rfl (si32 b)) yt0)) (by decide +kernel) (by decide +kernel)
theorem zP_X12_train {h : zH} (hI : yInv h) (a : Int32) : zGood 60 195 [.inr (.inr 440), .inl a] h := zpub (Q := yQ905) (r0 := 120) (tys := [(1, 0, (-2147483648), 2147483647)]) (yS905 (yGvOk (by decide)) (yHy_le (by decide) (yHyB (by decide)))) hI ⟨440, rfl, by decide +kernel⟩ (yt1 (yti (x := a) rfl (si32 a)) yt0) (by decide +kernel) (by decide +kernel)
theorem zP_X12_watcher {h : zH} (hI : yInv h) (a : Int32) : zGood 60 203 [.inr (.inr 440), .inl a] h := zpub (Q := yQ907) (r0 := 120) (tys := [(1, 0, (-2147483648), 2147483647)]) (yS907 (yGvOk (by decide))) hI ⟨440, rfl, by decide +kernel⟩ (yt1 (yti (x := a) rfl (si32 a)) yt0) (by decide +kernel) (by decide +kernel)
theorem zP_X12_who {h : zH} (hI : yInv h) (a : Int32) (b : Int32) : zGood 60 205 [.inr (.inr 440), .inl a, .inl b] h := zpub (Q := yQ736) (r0 := 120) (tys := [(1, 0, (-2147483648), 2147483647), (2, 0, (-2147483648), 2147483647)]) (yS736 (yGvOk (by decide)) (yHy_le (by decide) (yHyB (by decide)))) hI ⟨440, rfl, by decide +kernel⟩ (yt1 (yti (x := a) rfl (si32 a)) (yt1 (yti (x := b) rfl (si32 b)) yt0)) (by decide +kernel) (by decide +kernel)
theorem zP_X12_years {h : zH} (hI : yInv h) (a : Int32) (b : Int64) : zGood 60 209 [.inr (.inr 440), .inl a, .inr (.inl b)] h := zpub (Q := yQ908) (r0 := 120) (tys := [(1, 0, (-2147483648), 2147483647), (2, 1, (-9223372036854775808), 9223372036854775807)]) (yS908 (yGvOk (by decide)) (yHy_le (by decide) (yHyB (by decide)))) hI ⟨440, rfl, by decide +kernel⟩ (yt1 (yti (x := a) rfl (si32 a)) (yt1 (ytlg (x := b) rfl (si64 b)) yt0)) (by decide +kernel) (by decide +kernel)
theorem zzero {mid : Nat} {vs : List (Nat × Nat × sE)} {b : sB} {en : List (Nat × Nat)} (hS : ySum yG0 (yQ_z mid vs b en)) {args : List zV} {h : zH} {ρ ρ0 : Nat → Int} (hI : yInv h) (hM : sMt yReg yG0 ρ ρ0 (sAs (yQ_z mid vs b en).2.1) (zent 0 args) [] h) : zGood 60 mid args h := by
  obtain ⟨hG, g4, g5, g6, g7, gm⟩ := hI
  obtain ⟨m, r, h', r1, r2, r3, hx⟩ := hS args h _ _ hG hM 60 (show 0 ≤ 60 by decide)
  have r3 : sF yReg [] h h' := r3
  refine yone hx (ya1 ?_ ya0)
  intro hE
  obtain ⟨ρx, -, -, -, -, hr⟩ := yexU hE
  obtain ⟨x, rfl⟩ := yrt hr
  exact ⟨m, x, h', r1, ⟨r2, yfr4 r3 rfl g4, yfr5 r3 rfl g5, yfr6 r3 rfl g6, yfr7 r3 rfl g7, yfrm r3 rfl gm⟩, r0_fr r3 (by decide +kernel)⟩
theorem zP_X12_undo {h : zH} (hI : yInv h) : zGood 60 200 [.inr (.inr 440)] h := by
  have b39 := hI.1 440 (39, 39, 0, 40) (by decide +kernel) 39 (Nat.le_refl _) (Nat.le_refl _)
  have b39 : 0 ≤ yv h 440 39 ∧ yv h 440 39 ≤ 40 := b39
  by_cases h0 : yv h 440 39 = 0
  · refine zzero (yS_u0 (yGvOk (by decide))) (ρ := yρ [yv h 440 39]) (ρ0 := yρ0 [yv h 440 39] (0, [])) hI ?_
    refine ymk (ya1 ⟨440, rfl, by decide +kernel⟩ ya0) (ya1 (yvr2 (ysm_p (k := 440) (by decide) (by decide +kernel) (by decide +kernel) 39 rfl ?_)) ya0) (ya1 ?_ ya0) ya0 (ya1 rfl ya0) rfl
    · rw [sY_v]; rfl
    · show 0 ≤ yv h 440 39 ∧ yv h 440 39 ≤ 0; omega
  · obtain ⟨hG, g4, g5, g6, g7, gm⟩ := hI
    obtain ⟨a, ha⟩ : ∃ a : Nat, yv h 440 39 = a + 1 := ⟨(yv h 440 39 - 1).toNat, by omega⟩
    obtain ⟨pm, bd, n0, n1⟩ := g6 a (by omega) (by omega)
    have hM : sMt yReg yG0 (yρ [yv h 440 39, yv h 429 (220 * a + 30 + 0), yv h 429 (220 * a + 30 + 1), yv h 429 (220 * a + 30 + 2), yv h 429 (220 * a + 30 + 3), yv h 429 (220 * a + 30 + 4), yv h 429 (220 * a + 30 + 5), yv h 429 (220 * a + 39)]) (yρ0 [yv h 440 39, yv h 429 (220 * a + 30 + 0), yv h 429 (220 * a + 30 + 1), yv h 429 (220 * a + 30 + 2), yv h 429 (220 * a + 30 + 3), yv h 429 (220 * a + 30 + 4), yv h 429 (220 * a + 30 + 5), yv h 429 (220 * a + 39)] yQ906.2.1.2.2.2.2.2) (sAs yQ906.2.1) (zent 0 [.inr (.inr 440)]) [] h := by
      refine ymk (ya1 ⟨440, rfl, by decide +kernel⟩ ya0) (ya1 (yvr2 (ysm_p (k := 440) (by decide) (by decide +kernel) (by decide +kernel) 39 rfl ?_)) (ya1 (yvr2 (ysm_p (k := 429) (by decide) (by decide +kernel) (by decide +kernel) (220 * a + 30 + 0) ?_ ?_)) (ya1 (yvr2 (ysm_p (k := 429) (by decide) (by decide +kernel) (by decide +kernel) (220 * a + 30 + 1) ?_ ?_)) (ya1 (yvr2 (ysm_p (k := 429) (by decide) (by decide +kernel) (by decide +kernel) (220 * a + 30 + 2) ?_ ?_)) (ya1 (yvr2 (ysm_p (k := 429) (by decide) (by decide +kernel) (by decide +kernel) (220 * a + 30 + 3) ?_ ?_)) (ya1 (yvr2 (ysm_p (k := 429) (by decide) (by decide +kernel) (by decide +kernel) (220 * a + 30 + 4) ?_ ?_)) (ya1 (yvr2 (ysm_p (k := 429) (by decide) (by decide +kernel) (by decide +kernel) (220 * a + 30 + 5) ?_ ?_)) (ya1 (yvr2 (ysm_p (k := 429) (by decide) (by decide +kernel) (by decide +kernel) (220 * a + 39) ?_ ?_)) ya0)))))))) (ya1 b39 (ya1 (bd 0 (by decide)) (ya1 (bd 1 (by decide)) (ya1 (bd 2 (by decide)) (ya1 (bd 3 (by decide)) (ya1 (bd 4 (by decide)) (ya1 (bd 5 (by decide)) (ya1 ⟨n0, n1⟩ ya0)))))))) (ya1 ?_ ya0) (ya1 rfl (ya1 rfl (ya1 rfl (ya1 rfl (ya1 rfl (ya1 rfl (ya1 rfl (ya1 rfl ya0)))))))) rfl
      · rw [sY_v]; rfl
      · show -190 + (220 * yv h 440 39 + 0) = _; omega
      · rw [sY_v]; rfl
      · show -189 + (220 * yv h 440 39 + 0) = _; omega
      · rw [sY_v]; rfl
      · show -188 + (220 * yv h 440 39 + 0) = _; omega
      · rw [sY_v]; rfl
      · show -187 + (220 * yv h 440 39 + 0) = _; omega
      · rw [sY_v]; rfl
      · show -186 + (220 * yv h 440 39 + 0) = _; omega
      · rw [sY_v]; rfl
      · show -185 + (220 * yv h 440 39 + 0) = _; omega
      · rw [sY_v]; rfl
      · show -181 + (220 * yv h 440 39 + 0) = _; omega
      · rw [sY_v]; rfl
      · show 1 + (-1 * yv h 440 39 + 0) ≤ 0; omega
    obtain ⟨m, r, h', r1, r2, r3, hx⟩ := yS_undoL (yGvOk (by decide)) _ h _ _ hG hM 60 (Nat.zero_le _)
    have r3 : sF yReg [(120, 39, 39), (101, 0, 219)] h h' := r3
    refine yone hx (ya1 ?_ ya0)
    intro hE
    obtain ⟨ρx, q, -, ⟨-, c1, c2, -⟩, ⟨m0, m1, m2, m3, m4, m5, m6, -⟩, hr⟩ := yexU hE
    obtain ⟨x, rfl⟩ := yrt hr
    have q0 : ρx 0 = yv h 440 39 := q 0 (by decide)
    have c1 : 1 + (-1 * ρx 0 + (1 * ρx 8 + 0)) ≤ 0 := c1
    have c2 : -1 + (1 * ρx 0 + (-1 * ρx 8 + 0)) ≤ 0 := c2
    have w39 : yv h' 440 39 = 0 + (1 * ρx 8 + 0) := ysm_u (k := 440) (by decide) (by decide +kernel) m0 39 rfl
    have mn : yv h' 440 22 = yv h 440 22 := yfv r3 (by decide +kernel)
    have nw : ∀ d : Nat, d < 6 → yv h' 421 (0 + 30 + d) = yv h 429 (220 * a + 30 + d) := by
      intro d hd
      have e1 : yv h' 421 30 = 0 + (1 * ρx 1 + 0) := ysm_u (k := 421) (by decide) (by decide +kernel) m1 30 rfl
      have e2 : yv h' 421 31 = 0 + (1 * ρx 2 + 0) := ysm_u (k := 421) (by decide) (by decide +kernel) m2 31 rfl
      have e3 : yv h' 421 32 = 0 + (1 * ρx 3 + 0) := ysm_u (k := 421) (by decide) (by decide +kernel) m3 32 rfl
      have e4 : yv h' 421 33 = 0 + (1 * ρx 4 + 0) := ysm_u (k := 421) (by decide) (by decide +kernel) m4 33 rfl
      have e5 : yv h' 421 34 = 0 + (1 * ρx 5 + 0) := ysm_u (k := 421) (by decide) (by decide +kernel) m5 34 rfl
      have e6 : yv h' 421 35 = 0 + (1 * ρx 6 + 0) := ysm_u (k := 421) (by decide) (by decide +kernel) m6 35 rfl
      have f1 : ρx 1 = yv h 429 (220 * a + 30 + 0) := q 1 (by decide)
      have f2 : ρx 2 = yv h 429 (220 * a + 30 + 1) := q 2 (by decide)
      have f3 : ρx 3 = yv h 429 (220 * a + 30 + 2) := q 3 (by decide)
      have f4 : ρx 4 = yv h 429 (220 * a + 30 + 3) := q 4 (by decide)
      have f5 : ρx 5 = yv h 429 (220 * a + 30 + 4) := q 5 (by decide)
      have f6 : ρx 6 = yv h 429 (220 * a + 30 + 5) := q 6 (by decide)
      rcases (show d = 0 ∨ d = 1 ∨ d = 2 ∨ d = 3 ∨ d = 4 ∨ d = 5 by omega) with rfl | rfl | rfl | rfl | rfl | rfl
      · rw [← f1]; show yv h' 421 30 = _; omega
      · rw [← f2]; show yv h' 421 31 = _; omega
      · rw [← f3]; show yv h' 421 32 = _; omega
      · rw [← f4]; show yv h' 421 33 = _; omega
      · rw [← f5]; show yv h' 421 34 = _; omega
      · rw [← f6]; show yv h' 421 35 = _; omega
    refine ⟨m, x, h', r1, ⟨r2, yfr4 r3 (by decide +kernel) g4, ?_, ?_, yfr7 r3 (by decide +kernel) g7, yfrm r3 (by decide +kernel) gm⟩, r0_fr r3 (by decide +kernel)⟩
    · intro s s1 s2
      rw [mn] at s2
      obtain ⟨d, d1, d2, d3⟩ := pm s s1 s2
      exact ⟨d, d1, by rw [mn]; exact d2, (nw d d1).trans d3⟩
    · intro b b1 b2
      obtain ⟨p1, p2, p3, p4⟩ := g6 b b1 (by omega)
      have kv : ∀ i, yv h' 429 i = yv h 429 i := fun i => by
        unfold yv
        rw [yfc r3 (by decide +kernel)]
      refine ⟨(ypm_c mn.symm (fun d _ => (kv _).symm)).mp p1, fun d hd => ?_, ?_, ?_⟩
      · rw [kv]; exact p2 d hd
      · rw [kv]; exact p3
      · rw [kv]; exact p4
theorem zP_X12_back {h : zH} (hI : yInv h) : zGood 60 104 [.inr (.inr 440)] h := by
  have b55 := hI.1 440 (55, 55, 0, 1) (by decide +kernel) 55 (Nat.le_refl _) (Nat.le_refl _)
  have b55 : 0 ≤ yv h 440 55 ∧ yv h 440 55 ≤ 1 := b55
  by_cases h0 : yv h 440 55 = 0
  · refine zzero (yS_b0 (yGvOk (by decide))) (ρ := yρ [yv h 440 55]) (ρ0 := yρ0 [yv h 440 55] (0, [])) hI ?_
    refine ymk (ya1 ⟨440, rfl, by decide +kernel⟩ ya0) (ya1 (yvr2 (ysm_p (k := 440) (by decide) (by decide +kernel) (by decide +kernel) 55 rfl ?_)) ya0) (ya1 ?_ ya0) ya0 (ya1 rfl ya0) rfl
    · rw [sY_v]; rfl
    · show 0 ≤ yv h 440 55 ∧ yv h 440 55 ≤ 0; omega
  · obtain ⟨hG, g4, g5, g6, g7, gm⟩ := hI
    have hM : sMt yReg yG0 (yρ [yv h 440 55]) (yρ0 [yv h 440 55] (300, [])) (sAs yQ_bk.2.1) (zent 0 [.inr (.inr 440)]) [] h := by
      refine ymk (ya1 ⟨440, rfl, by decide +kernel⟩ ya0) (ya1 (yvr2 (ysm_p (k := 440) (by decide) (by decide +kernel) (by decide +kernel) 55 rfl ?_)) ya0) (ya1 ?_ ya0) ya0 (ya1 rfl ya0) rfl
      · rw [sY_v]; rfl
      · show 1 ≤ yv h 440 55 ∧ yv h 440 55 ≤ 1; omega
    obtain ⟨m, r, h', r1, r2, r3, hx⟩ := yS_bk (yGvOk (by decide)) _ h _ _ hG hM 60 (Nat.zero_le _)
    have r3 : sF yReg [(120, 39, 39), (101, 0, 219)] h h' := r3
    have key : ∀ q : Nat, q < 6 → yv h' 421 (0 + 30 + q) = yv h 439 (0 + 30 + q) := by
      intro q hq
      have bi := hG 439 (30, 35, 0, 5) (by decide +kernel) (30 + q) (by show 30 ≤ 30 + q; omega) (by show 30 + q ≤ 35; omega)
      have hM2 : sMt yReg yG0 (yρ [yv h 440 55, (30 + q : Nat), yv h 439 (30 + q)]) (yρ0 [yv h 440 55, (30 + q : Nat), yv h 439 (30 + q)] yQ286.2.1.2.2.2.2.2) (sAs yQ286.2.1) (zent 0 [.inr (.inr 440)]) [] h := by
        refine ymk (ya1 ⟨440, rfl, by decide +kernel⟩ ya0) (ya1 (yvr2 (ysm_p (k := 440) (by decide) (by decide +kernel) (by decide +kernel) 55 rfl ?_)) (ya1 yvr3 (ya1 (yvr2 (ysm_p (k := 439) (by decide) (by decide +kernel) (by decide +kernel) (30 + q) ?_ ?_)) ya0))) (ya1 b55 (ya1 ?_ (ya1 bi ya0))) ya0 (ya1 rfl (ya1 rfl (ya1 rfl ya0))) rfl
        · rw [sY_v]; rfl
        · show 0 + (1 * ((30 + q : Nat) : Int) + 0) = _; omega
        · rw [sY_v]; rfl
        · show (30 : Int) ≤ ((30 + q : Nat) : Int) ∧ ((30 + q : Nat) : Int) ≤ 35; omega
      obtain ⟨m2, r', h2, t1, -, -, hx2⟩ := yS_backL (yGvOk (by decide)) _ h _ _ hG hM2 60 (Nat.zero_le _)
      have := yrun_u r1 t1
      cases this
      refine yone hx2 (ya1 ?_ (ya1 ?_ ya0))
      · intro hE
        obtain ⟨ρx, p, -, ⟨c0, -⟩, -, -⟩ := yexU hE
        have c0 : 0 + (1 * ρx 0 + 0) ≤ 0 := c0
        have p0 : ρx 0 = yv h 440 55 := p 0 (by decide)
        omega
      · intro hE
        obtain ⟨ρx, p, -, -, ⟨mm, -⟩, -⟩ := yexU hE
        have p1 : ρx 1 = ((30 + q : Nat) : Int) := p 1 (by decide)
        have p2 : ρx 2 = yv h 439 (30 + q) := p 2 (by decide)
        have u : yv h' 421 (30 + q) = 0 + (1 * ρx 2 + 0) := ysm_u (k := 421) (by decide) (by decide +kernel) mm (30 + q) (by show 0 + (1 * ρx 1 + 0) = _; omega)
        rw [Nat.zero_add]
        omega
    refine yone hx (ya1 ?_ ya0)
    intro hE
    obtain ⟨ρx, -, -, -, ⟨m0, -⟩, hr⟩ := yexU hE
    obtain ⟨x, rfl⟩ := yrt hr
    have w39 : yv h' 440 39 = 0 + 0 := ysm_u (k := 440) (by decide) (by decide +kernel) m0 39 rfl
    have mn : yv h' 440 22 = yv h 440 22 := yfv r3 (by decide +kernel)
    have pm : ypm h 439 0 := by
      rcases g7 with g | g
      · exact absurd g h0
      · exact g
    refine ⟨m, x, h', r1, ⟨r2, yfr4 r3 (by decide +kernel) g4, ?_, ?_, yfr7 r3 (by decide +kernel) g7, yfrm r3 (by decide +kernel) gm⟩, r0_fr r3 (by decide +kernel)⟩
    · intro s s1 s2
      rw [mn] at s2
      obtain ⟨d, d1, d2, d3⟩ := pm s s1 s2
      exact ⟨d, d1, by rw [mn]; exact d2, (key d d1).trans d3⟩
    · intro b b1 b2
      omega
theorem zP_X12_image {h : zH} (hI : yInv h) : zGood 60 132 [.inr (.inr 440)] h := by
  obtain ⟨hG, g4, g5, g6, g7, gm⟩ := hI
  have b22 := hG 440 (22, 22, 0, 6) (by decide +kernel) 22 (Nat.le_refl _) (Nat.le_refl _)
  have b22 : 0 ≤ yv h 440 22 ∧ yv h 440 22 ≤ 6 := b22
  have b55 := hG 440 (55, 55, 0, 1) (by decide +kernel) 55 (Nat.le_refl _) (Nat.le_refl _)
  have go : ∀ q : Nat, q < 6 → ∃ m x h', yrun m 60 132 [.inr (.inr 440)] h = some (some (.inl x), h') ∧ sG yReg yG h' ∧ sF yReg [(120, 55, 55), (119, 0, 219)] h h' ∧ (yv h 440 22 ≤ 0 ∨ yv h' 439 (0 + 30 + q) = yv h 421 (0 + 30 + q)) := by
    intro q hq
    have bi := hG 421 (30, 35, 0, 5) (by decide +kernel) (30 + q) (by show 30 ≤ 30 + q; omega) (by show 30 + q ≤ 35; omega)
    have hM2 : sMt yReg yG0 (yρ [yv h 440 22, yv h 440 55, (30 + q : Nat), yv h 421 (30 + q)]) (yρ0 [yv h 440 22, yv h 440 55, (30 + q : Nat), yv h 421 (30 + q)] yQ738.2.1.2.2.2.2.2) (sAs yQ738.2.1) (zent 0 [.inr (.inr 440)]) [] h := by
      refine ymk (ya1 ⟨440, rfl, by decide +kernel⟩ ya0) (ya1 (yvr2 (ysm_p (k := 440) (by decide) (by decide +kernel) (by decide +kernel) 22 rfl ?_)) (ya1 (yvr2 (ysm_p (k := 440) (by decide) (by decide +kernel) (by decide +kernel) 55 rfl ?_)) (ya1 yvr3 (ya1 (yvr2 (ysm_p (k := 421) (by decide) (by decide +kernel) (by decide +kernel) (30 + q) ?_ ?_)) ya0)))) (ya1 b22 (ya1 b55 (ya1 ?_ (ya1 bi ya0)))) ya0 (ya1 rfl (ya1 rfl (ya1 rfl (ya1 rfl ya0)))) rfl
      · rw [sY_v]; rfl
      · rw [sY_v]; rfl
      · show 0 + (1 * ((30 + q : Nat) : Int) + 0) = _; omega
      · rw [sY_v]; rfl
      · show (30 : Int) ≤ ((30 + q : Nat) : Int) ∧ ((30 + q : Nat) : Int) ≤ 35; omega
    obtain ⟨m, r, h', r1, r2, r3, hx⟩ := yS_imageL (yGvOk (by decide)) _ h _ _ hG hM2 60 (Nat.zero_le _)
    refine yone hx (ya1 ?_ (ya1 ?_ ya0))
    · intro hE
      obtain ⟨ρx, p, -, ⟨c0, -⟩, -, hr⟩ := yexU hE
      obtain ⟨x, rfl⟩ := yrt hr
      have c0 : 0 + (1 * ρx 0 + 0) ≤ 0 := c0
      have p0 : ρx 0 = yv h 440 22 := p 0 (by decide)
      exact ⟨m, x, h', r1, r2, r3, Or.inl (by omega)⟩
    · intro hE
      obtain ⟨ρx, p, -, -, ⟨-, mm, -⟩, hr⟩ := yexU hE
      obtain ⟨x, rfl⟩ := yrt hr
      have p2 : ρx 2 = ((30 + q : Nat) : Int) := p 2 (by decide)
      have p3 : ρx 3 = yv h 421 (30 + q) := p 3 (by decide)
      have u : yv h' 439 (30 + q) = 0 + (1 * ρx 3 + 0) := ysm_u (k := 439) (by decide) (by decide +kernel) mm (30 + q) (by show 0 + (1 * ρx 2 + 0) = _; omega)
      refine ⟨m, x, h', r1, r2, r3, Or.inr ?_⟩
      rw [Nat.zero_add]
      omega
  obtain ⟨m, x, h', r1, r2, r3, -⟩ := go 0 (by decide)
  have key : ∀ q : Nat, q < 6 → yv h 440 22 ≤ 0 ∨ yv h' 439 (0 + 30 + q) = yv h 421 (0 + 30 + q) := by
    intro q hq
    obtain ⟨m2, x2, h2, t1, -, -, t2⟩ := go q hq
    have := yrun_u r1 t1
    cases this
    exact t2
  have mn : yv h' 440 22 = yv h 440 22 := yfv r3 (by decide +kernel)
  refine ⟨m, x, h', r1, ⟨r2, yfr4 r3 (by decide +kernel) g4, yfr5 r3 (by decide +kernel) g5, yfr6 r3 (by decide +kernel) g6, Or.inr ?_, yfrm r3 (by decide +kernel) gm⟩, r0_fr r3 (by decide +kernel)⟩
  intro s s1 s2
  rw [mn] at s2
  obtain ⟨d, d1, d2, d3⟩ := g5 s s1 s2
  refine ⟨d, d1, by rw [mn]; exact d2, ?_⟩
  rcases key d d1 with k | k
  · omega
  · exact k.trans d3
theorem zP_X12_ring {h : zH} (hI : yInv h) (a : Int32) : zGood 60 177 [.inr (.inr 440), .inl a] h := by
  have b22 := hI.1 440 (22, 22, 0, 6) (by decide +kernel) 22 (Nat.le_refl _) (Nat.le_refl _)
  have b22 : 0 ≤ yv h 440 22 ∧ yv h 440 22 ≤ 6 := b22
  by_cases h0 : yv h 440 22 = 0
  · refine zzero (yS_r0 (yGvOk (by decide))) (ρ := yρ [a.toInt, yv h 440 22]) (ρ0 := yρ0 [a.toInt, yv h 440 22] (0, [])) hI ?_
    refine ymk (ya1 ⟨440, rfl, by decide +kernel⟩ ya0) (ya1 (yvr0 (x := a) rfl rfl) (ya1 (yvr2 (ysm_p (k := 440) (by decide) (by decide +kernel) (by decide +kernel) 22 rfl ?_)) ya0)) (ya1 (si32 a) (ya1 ?_ ya0)) ya0 (ya1 rfl (ya1 rfl ya0)) rfl
    · rw [sY_v]; rfl
    · show 0 ≤ yv h 440 22 ∧ yv h 440 22 ≤ 0; omega
  · obtain ⟨hG, g4, g5, g6, g7, gm⟩ := hI
    have go : ∀ q : Nat, q < 6 → (q : Int) < yv h 440 22 → ∃ m x h', yrun m 60 177 [.inr (.inr 440), .inl a] h = some (some (.inl x), h') ∧ sG yReg yG h' ∧ sF yReg yQ883.2.2.2.1 h h' ∧ yv h' 421 (0 + 30 + q) = yv h 421 (0 + 30 + q) := by
      intro q hq hq2
      have bi := hG 421 (30, 35, 0, 5) (by decide +kernel) (30 + q) (by show 30 ≤ 30 + q; omega) (by show 30 + q ≤ 35; omega)
      have hM2 : sMt yReg yG0 (yρ [a.toInt, yv h 440 22, 1, 1, (q : Int), yv h 421 (30 + q)]) (yρ0 [a.toInt, yv h 440 22, 1, 1, (q : Int), yv h 421 (30 + q)] yQ883.2.1.2.2.2.2.2) (sAs yQ883.2.1) (zent 0 [.inr (.inr 440), .inl a]) [] h := by
        refine ymk (ya1 ⟨440, rfl, by decide +kernel⟩ ya0) (ya1 (yvr0 (x := a) rfl rfl) (ya1 (yvr2 (ysm_p (k := 440) (by decide) (by decide +kernel) (by decide +kernel) 22 rfl ?_)) (ya1 (yvr2 (ysm_g (a := 4) ?_)) (ya1 (yvr2 (ysm_g (a := 5) ?_)) (ya1 yvr3 (ya1 (yvr2 (ysm_p (k := 421) (by decide) (by decide +kernel) (by decide +kernel) (30 + q) ?_ ?_)) ya0)))))) (ya1 (si32 a) (ya1 b22 (ya1 ⟨Int.le_refl _, Int.le_refl _⟩ (ya1 ⟨Int.le_refl _, Int.le_refl _⟩ (ya1 ?_ (ya1 bi ya0)))))) (ya1 ?_ ya0) (ya1 rfl (ya1 rfl (ya1 rfl (ya1 rfl (ya1 rfl (ya1 rfl ya0)))))) rfl
        · rw [sY_v]; rfl
        · rw [sY_v]; exact yB_1.mpr g4
        · rw [sY_v]; exact yB_1.mpr g5
        · show 30 + (1 * (q : Int) + 0) = _; omega
        · rw [sY_v]; rfl
        · show (0 : Int) ≤ q ∧ (q : Int) ≤ 5; omega
        · show 1 + (-1 * yv h 440 22 + (1 * (q : Int) + 0)) ≤ 0; omega
      obtain ⟨m, r, h', r1, r2, r3, hx⟩ := yS_ringL (yGvOk (by decide)) (yHy_le (by decide) (yHyB (by decide))) _ h _ _ hG hM2 60 (by decide)
      have fin : ∀ (ρx : Nat → Int) (e : sE), (∀ j, j < 6 → ρx j = yρ0 [a.toInt, yv h 440 22, 1, 1, (q : Int), yv h 421 (30 + q)] yQ883.2.1.2.2.2.2.2 (j + 1)) → smm yReg yG0 ρx h' (101, (30, [(4, 1)]), (0, [(5, 1)])) → srt yReg ρx (some (0, e)) r → ∃ m x h', yrun m 60 177 [.inr (.inr 440), .inl a] h = some (some (.inl x), h') ∧ sG yReg yG h' ∧ sF yReg yQ883.2.2.2.1 h h' ∧ yv h' 421 (0 + 30 + q) = yv h 421 (0 + 30 + q) := by
        intro ρx e p mm hr
        obtain ⟨x, rfl⟩ := yrt hr
        have p4 : ρx 4 = q := p 4 (by decide)
        have p5 : ρx 5 = yv h 421 (30 + q) := p 5 (by decide)
        have u : yv h' 421 (30 + q) = 0 + (1 * ρx 5 + 0) := ysm_u (k := 421) (by decide) (by decide +kernel) mm (30 + q) (by show 30 + (1 * ρx 4 + 0) = _; omega)
        refine ⟨m, x, h', r1, r2, r3, ?_⟩
        rw [Nat.zero_add]
        omega
      refine yone hx (ya1 ?_ (ya1 ?_ (ya1 ?_ (ya1 ?_ ya0))))
      · intro hE
        obtain ⟨ρx, p, -, -, ⟨-, mm, -⟩, hr⟩ := yexU hE
        exact fin ρx _ p mm hr
      · intro hE
        obtain ⟨ρx, p, -, -, ⟨-, mm, -⟩, hr⟩ := yexU hE
        exact fin ρx _ p mm hr
      · intro hE
        obtain ⟨ρx, p, -, -, ⟨mm, -⟩, hr⟩ := yexU hE
        exact fin ρx _ p mm hr
      · intro hE
        obtain ⟨ρx, p, -, -, ⟨mm, -⟩, hr⟩ := yexU hE
        exact fin ρx _ p mm hr
    obtain ⟨m, x, h', r1, r2, r3, -⟩ := go 0 (by decide) (by show (0 : Int) < _; omega)
    have key : ∀ q : Nat, q < 6 → (q : Int) < yv h 440 22 → yv h' 421 (0 + 30 + q) = yv h 421 (0 + 30 + q) := by
      intro q hq hq2
      obtain ⟨m2, x2, h2, t1, -, -, t2⟩ := go q hq hq2
      have := yrun_u r1 t1
      cases this
      exact t2
    have mn : yv h' 440 22 = yv h 440 22 := yfv r3 (by decide +kernel)
    refine ⟨m, x, h', r1, ⟨r2, yfr4 r3 (by decide +kernel) g4, ?_, yfr6 r3 (by decide +kernel) g6, yfr7 r3 (by decide +kernel) g7, yfrm r3 (by decide +kernel) gm⟩, r0_fr r3 (by decide +kernel)⟩
    intro s s1 s2
    rw [mn] at s2
    obtain ⟨d, d1, d2, d3⟩ := g5 s s1 s2
    exact ⟨d, d1, by rw [mn]; exact d2, (key d d1 d2).trans d3⟩
theorem zP_X12_law {h : zH} (hI : yInv h) (a : Int32) : zGood 60 149 [.inr (.inr 440), .inl a] h := by
  obtain ⟨hG, g4, g5, g6, g7, gm⟩ := hI
  have b13 := hG 440 (13, 13, 0, 4) (by decide +kernel) 13 (Nat.le_refl _) (Nat.le_refl _)
  have b25 := hG 440 (25, 25, -1, 3) (by decide +kernel) 25 (Nat.le_refl _) (Nat.le_refl _)
  have ia := si32 a
  have hM : sMt yReg yG0 (yρ [a.toInt, yv h 440 13, yv h 440 25]) (yρ0 [a.toInt, yv h 440 13, yv h 440 25] (0, [])) (sAs yQ_law.2.1) (zent 0 [.inr (.inr 440), .inl a]) [] h := by
    refine ymk (ya1 ⟨440, rfl, by decide +kernel⟩ ya0) (ya1 (yvr0 (x := a) rfl rfl) (ya1 (yvr2 (ysm_p (k := 440) (by decide) (by decide +kernel) (by decide +kernel) 13 rfl ?_)) (ya1 (yvr2 (ysm_p (k := 440) (by decide) (by decide +kernel) (by decide +kernel) 25 rfl ?_)) ya0))) (ya1 ia (ya1 b13 (ya1 b25 ya0))) (ya1 ?_ ya0) (ya1 rfl (ya1 rfl (ya1 rfl ya0))) rfl
    · rw [sY_v]; rfl
    · rw [sY_v]; rfl
    · show 1 + (-1 * yv h 440 13 + (1 * yv h 440 25 + 0)) ≤ 0
      have := g4.1
      omega
  obtain ⟨m, r, h', r1, r2, r3, hx⟩ := yS_law (yGvOk (by decide)) _ h _ _ hG hM 60 (by decide)
  have fin : ∀ x : Int32, r = some (.inl x) → yv h' 440 25 < yv h' 440 13 → zGood 60 149 [.inr (.inr 440), .inl a] h := by
    intro x hr hlt
    subst hr
    have fr : ∀ b, yfre yQ_law.2.2.2.1 (yGu b) = true → yG0 b h = yG0 b h' := fun b hb => yGvOk (by decide) b h h' (fun k i hz => yfre_ok hb r3 hz)
    refine ⟨m, x, h', r1, ⟨r2, ⟨hlt, ?_⟩, ?_, ?_, ?_, ?_⟩, r0_fr r3 (by decide +kernel)⟩
    · have e13 : yv h' 440 13 = yv h 440 13 := yfv r3 (by decide +kernel)
      rw [e13]
      refine (yls_c (fun n hn => ylw_c (fun i => ?_) (fun i => ?_) ?_ (fun i hi => ?_))).mp g4.2
      · unfold yco yv
        rw [yfc r3 (by decide +kernel)]
      · unfold yva yv
        rw [yfc r3 (by decide +kernel)]
      · unfold yv
        rw [yfc r3 (by decide +kernel)]
      · unfold yv
        rw [yfc r3 (by decide +kernel), yfc (k := 413) r3 (by decide +kernel), yfc (k := 414) r3 (by decide +kernel)]
        exact ⟨rfl, rfl, rfl⟩
    · refine yB_1.mp ?_
      show yG0 5 h' = 1
      rw [← fr 5 (by decide +kernel)]
      exact yB_1.mpr g5
    · refine yB_1.mp ?_
      show yG0 6 h' = 1
      rw [← fr 6 (by decide +kernel)]
      exact yB_1.mpr g6
    · refine yB_1.mp ?_
      show yG0 7 h' = 1
      rw [← fr 7 (by decide +kernel)]
      exact yB_1.mpr g7
    · rw [yfv (k := 440) (i := 22) r3 (by decide +kernel), yfv (k := 419) (i := 0) r3 (by decide +kernel)]
      exact gm
  refine yone hx (ya1 ?_ (ya1 ?_ ya0))
  · intro hE
    obtain ⟨ρx, a', -, ⟨c0, -⟩, ⟨m0, m1, -⟩, hr⟩ := yexU hE
    have v13 : yv h' 440 13 = 0 + (1 * ρx 1 + 0) := ysm_u (k := 440) (by decide) (by decide +kernel) m0 13 rfl
    have v25 : yv h' 440 25 = 0 + (1 * ρx 2 + 0) := ysm_u (k := 440) (by decide) (by decide +kernel) m1 25 rfl
    have c0 : 1 + (-1 * ρx 1 + (1 * ρx 2 + 0)) ≤ 0 := c0
    match r, hr with
    | some (.inl z), _ => exact fin z rfl (by omega)
  · intro hE
    obtain ⟨ρx, a', -, ⟨c0, -⟩, ⟨m0, m1, -⟩, hr⟩ := yexU hE
    have v13 : yv h' 440 13 = 0 + (1 * ρx 1 + 0) := ysm_u (k := 440) (by decide) (by decide +kernel) m0 13 rfl
    have v25 : yv h' 440 25 = 0 + (1 * ρx 0 + 0) := ysm_u (k := 440) (by decide) (by decide +kernel) m1 25 rfl
    have c0 : 1 + (1 * ρx 0 + (-1 * ρx 1 + 0)) ≤ 0 := c0
    match r, hr with
    | some (.inl z), _ => exact fin z rfl (by omega)
theorem zP_X11_snow {h : zH} (hI : yInv h) (a : Int32) : zGood 60 85 [.inr (.inr 406), .inl a] h := by
  obtain ⟨m, x, h', r1, i1, s1, f1⟩ := ysnow (cell := 406) (by decide) (by decide +kernel) (by decide +kernel) (yS_snG (yGvOk (by decide))) (by decide) (by decide +kernel) hI a
  exact ⟨m, x, h', r1, i1, r0_fr f1 (by decide +kernel)⟩
theorem zP_X12_snow {h : zH} (hI : yInv h) (a : Int32) : zGood 60 184 [.inr (.inr 440), .inl a] h := by
  obtain ⟨m, x, h', r1, i1, s1, f1⟩ := ysnow (cell := 440) (by decide) (by decide +kernel) (by decide +kernel) (yS_snM (yGvOk (by decide))) (by decide) (by decide +kernel) hI a
  exact ⟨m, x, h', r1, i1, r0_fr f1 (by decide +kernel)⟩
