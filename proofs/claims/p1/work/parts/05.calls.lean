def s_X11_rule : Int32 := (-1)
set_option maxHeartbeats 4000000 in
set_option maxRecDepth 100000 in
theorem c_X11_rule (l : Launch) (dC : Nat → ClassId) (dI : Nat → Nat → Nat) (cI cZ : ClassId) (sz : Nat) (h0 : Nat) (h1 : Nat) (d0 : Value) (d1 : Value) (d2 : Value) (d3 : Value) (d5 : Value) (d6 : Value) (d7 : Value) (d8 : Value) (d9 : Value) (d10 : Value) (d11 : Value) (d12 : Value) (d13 : Value) (d14 : Value) (d15 : Value) (d16 : Value) (d17 : Value) (d18 : Value) (d19 : Value) (v0_2 : Value) (v0_3 : Value) (v0_4 : Value) (p0 : Int32) : Met l yX11_rule wsX11_rule ({ frames := 1, cells := 0, slots := 0, locals := 20 }) (va_Pc [.ref h0, .int p0] (zPre dC dI cI cZ sz [(h0, .inr (11, [d0, d1, d2, d3, .ref h1, d5, d6, d7, d8, d9, d10, d11, d12, d13, d14, d15, d16, d17, d18, d19])), (h1, .inr (1, [.int 0, .int 0, v0_2, v0_3, v0_4]))])) (va_Qi (fun (r : Int32) (_ : Unit) => r = s_X11_rule) (fun (_ : Unit) _ => True) (fun _ => False)) 0 0 (fun _ => False) := by
  refine Met.ofW (cc := cX11_rule) (maxL := 2) (ret := (some .int)) (by decide) rfl ?_
  intro p e s m args below meth c s₁ B hml hv
  obtain ⟨rfl, hsz, hP, hK, hD0, hG⟩ := hv
  have hx := B.exec
  have hb := B.bytes
  have hr := B.returns
  have hts := atoms_spec (ws := wsX11_rule) B.pre
  have hown : s.vm.findClass RX11 = some m.cls := findClass_of_methodNamed B.named
  have hlocks := B.notSynchronized
  subst hsz
  have hS : va_S (fun _ : Nat => False) s.heap s.heap [] := va_S.rf
  have hP : va_P (dC, dI) vwCl [(h0, .inr (11, [d0, d1, d2, d3, .ref h1, d5, d6, d7, d8, d9, d10, d11, d12, d13, d14, d15, d16, d17, d18, d19])), (h1, .inr (1, [.int 0, .int 0, v0_2, v0_3, v0_4]))] s.heap := hP
  have hl := lv_entry ([.ref h0, .int p0]) (n := 2) (Nat.le_of_ble_eq_true rfl)
  rw [lg_entry_eq]
  generalize (lg_sl ([.ref h0, .int p0]) ++ List.replicate (2 - (lg_sl ([.ref h0, .int p0])).length) Slot.unset).toArray = ls at hl ⊢
  have hl : lv_has ls 2 [(0, .ref h0), (1, .int p0)] := hl
  refine lv_aload_n hx hb dX11_rule_0 rfl (lv_at hl 0 rfl) ?_
  have hPc := hP.sub (ws' := [(h0, .inr (11, [d0, d1, d2, d3, .ref h1, d5, d6, d7, d8, d9, d10, d11, d12, d13, d14, d15, d16, d17, d18, d19])), (h1, .inr (1, [.int 0, .int 0, v0_2, v0_3, v0_4]))]) [0, 1] rfl
  have hDc := hD0.sub (ws' := [(h0, .inr (11, [d0, d1, d2, d3, .ref h1, d5, d6, d7, d8, d9, d10, d11, d12, d13, d14, d15, d16, d17, d18, d19])), (h1, .inr (1, [.int 0, .int 0, v0_2, v0_3, v0_4]))]) [0, 1] (by decide) rfl
  refine va_calli (va_runV (As := []) (rest := []) ⟨hx, hb, hml, hown, hts⟩ (c_X11_hasFort l dC dI cI cZ s.heap.size h0 h1 d0 d1 d2 d3 d5 d6 d7 d8 d9 d10 d11 d12 d13 d14 d15 d16 d17 d18 d19 (.int 0) v0_2 v0_3 v0_4) (cwV 0 hts gX11_rule_X11_hasFort rfl rfl rfl (by decide +kernel) ⟨Nat.le_of_ble_eq_true rfl, Nat.le_of_ble_eq_true rfl⟩) (zPreV hPc hK hDc hG (ci := 11) (q0 := 0) rfl rfl) rfl rfl hl.1 rfl (lv_room (Nat.le_of_ble_eq_true rfl)) dX11_rule_1 ⟨Nat.le_of_ble_eq_true rfl, Nat.le_of_ble_eq_true rfl⟩) hS (fun _ _ h => h.elim) (fun _ h => h.elim) (fun r1 u9 t9 H1 locs ht9 hvm hwr1 hB9 hz1 hk1 hS => ?_)
  replace hP := zKept hP hk1
  try clear hB9 hz1 hk1 hvm ht9 u9 hPc hDc
  generalize H1 = H at hP hS ⊢
  obtain rfl : r1 = 0 := hwr1.trans rfl
  refine lv_if_ne (tgt := 9) hx hb dX11_rule_4 (by decide) (fun c9 => absurd (by decide) c9) (fun _ => ?_)
  refine lv_iconst (v := (-1)) hx hb dX11_rule_7 (by decide) ?_
  exact W.iret (v := (-1)) hx hb hr (fun t ht hW => ⟨⟨(-1), (), rfl, (by unfold s_X11_rule; first | rfl | simp), trivial⟩, hS.F ht⟩) hS.2.2 dX11_rule_8

def s_X11_years : Int32 := (-1)
set_option maxHeartbeats 4000000 in
set_option maxRecDepth 100000 in
theorem c_X11_years (l : Launch) (dC : Nat → ClassId) (dI : Nat → Nat → Nat) (cI cZ : ClassId) (sz : Nat) (h0 : Nat) (h1 : Nat) (d0 : Value) (d1 : Value) (d2 : Value) (d3 : Value) (d5 : Value) (d6 : Value) (d7 : Value) (d8 : Value) (d9 : Value) (d10 : Value) (d11 : Value) (d12 : Value) (d13 : Value) (d14 : Value) (d15 : Value) (d16 : Value) (d17 : Value) (d18 : Value) (d19 : Value) (v0_2 : Value) (v0_3 : Value) (v0_4 : Value) (p0 : Int32) (p1 : Int64) : Met l yX11_years wsX11_years ({ frames := 1, cells := 0, slots := 0, locals := 20 }) (va_Pc [.ref h0, .int p0, .long p1] (zPre dC dI cI cZ sz [(h0, .inr (11, [d0, d1, d2, d3, .ref h1, d5, d6, d7, d8, d9, d10, d11, d12, d13, d14, d15, d16, d17, d18, d19])), (h1, .inr (1, [.int 0, .int 0, v0_2, v0_3, v0_4]))])) (va_Qi (fun (r : Int32) (_ : Unit) => r = s_X11_years) (fun (_ : Unit) _ => True) (fun _ => False)) 0 0 (fun _ => False) := by
  refine Met.ofW (cc := cX11_years) (maxL := 5) (ret := (some .int)) (by decide) rfl ?_
  intro p e s m args below meth c s₁ B hml hv
  obtain ⟨rfl, hsz, hP, hK, hD0, hG⟩ := hv
  have hx := B.exec
  have hb := B.bytes
  have hr := B.returns
  have hts := atoms_spec (ws := wsX11_years) B.pre
  have hown : s.vm.findClass RX11 = some m.cls := findClass_of_methodNamed B.named
  have hlocks := B.notSynchronized
  subst hsz
  have hS : va_S (fun _ : Nat => False) s.heap s.heap [] := va_S.rf
  have hP : va_P (dC, dI) vwCl [(h0, .inr (11, [d0, d1, d2, d3, .ref h1, d5, d6, d7, d8, d9, d10, d11, d12, d13, d14, d15, d16, d17, d18, d19])), (h1, .inr (1, [.int 0, .int 0, v0_2, v0_3, v0_4]))] s.heap := hP
  have hl := lv_entry ([.ref h0, .int p0, .long p1]) (n := 5) (Nat.le_of_ble_eq_true rfl)
  rw [lg_entry_eq]
  generalize (lg_sl ([.ref h0, .int p0, .long p1]) ++ List.replicate (5 - (lg_sl ([.ref h0, .int p0, .long p1])).length) Slot.unset).toArray = ls at hl ⊢
  have hl : lv_has ls 5 [(0, .ref h0), (1, .int p0), (2, .long p1)] := hl
  refine lv_aload_n hx hb dX11_years_0 rfl (lv_at hl 0 rfl) ?_
  have hPc := hP.sub (ws' := [(h0, .inr (11, [d0, d1, d2, d3, .ref h1, d5, d6, d7, d8, d9, d10, d11, d12, d13, d14, d15, d16, d17, d18, d19])), (h1, .inr (1, [.int 0, .int 0, v0_2, v0_3, v0_4]))]) [0, 1] rfl
  have hDc := hD0.sub (ws' := [(h0, .inr (11, [d0, d1, d2, d3, .ref h1, d5, d6, d7, d8, d9, d10, d11, d12, d13, d14, d15, d16, d17, d18, d19])), (h1, .inr (1, [.int 0, .int 0, v0_2, v0_3, v0_4]))]) [0, 1] (by decide) rfl
  refine va_calli (va_runV (As := []) (rest := []) ⟨hx, hb, hml, hown, hts⟩ (c_X11_hasFort l dC dI cI cZ s.heap.size h0 h1 d0 d1 d2 d3 d5 d6 d7 d8 d9 d10 d11 d12 d13 d14 d15 d16 d17 d18 d19 (.int 0) v0_2 v0_3 v0_4) (cwV 0 hts gX11_years_X11_hasFort rfl rfl rfl (by decide +kernel) ⟨Nat.le_of_ble_eq_true rfl, Nat.le_of_ble_eq_true rfl⟩) (zPreV hPc hK hDc hG (ci := 11) (q0 := 0) rfl rfl) rfl rfl hl.1 rfl (lv_room (Nat.le_of_ble_eq_true rfl)) dX11_years_1 ⟨Nat.le_of_ble_eq_true rfl, Nat.le_of_ble_eq_true rfl⟩) hS (fun _ _ h => h.elim) (fun _ h => h.elim) (fun r1 u9 t9 H1 locs ht9 hvm hwr1 hB9 hz1 hk1 hS => ?_)
  replace hP := zKept hP hk1
  try clear hB9 hz1 hk1 hvm ht9 u9 hPc hDc
  generalize H1 = H at hP hS ⊢
  obtain rfl : r1 = 0 := hwr1.trans rfl
  refine lv_if_eq (tgt := 33) hx hb dX11_years_4 (by decide) (fun _ => ?_) (fun c9 => absurd (by decide) c9)
  refine lv_iconst (v := (-1)) hx hb dX11_years_33 (by decide) ?_
  exact W.iret (v := (-1)) hx hb hr (fun t ht hW => ⟨⟨(-1), (), rfl, (by unfold s_X11_years; first | rfl | simp), trivial⟩, hS.F ht⟩) hS.2.2 dX11_years_34

def s_X11_night : Int32 := (-1)
set_option maxHeartbeats 4000000 in
set_option maxRecDepth 100000 in
theorem c_X11_night (l : Launch) (dC : Nat → ClassId) (dI : Nat → Nat → Nat) (cI cZ : ClassId) (sz : Nat) (h0 : Nat) (h1 : Nat) (d0 : Value) (d1 : Value) (d2 : Value) (d3 : Value) (d5 : Value) (d6 : Value) (d7 : Value) (d8 : Value) (d9 : Value) (d10 : Value) (d11 : Value) (d12 : Value) (d13 : Value) (d14 : Value) (d15 : Value) (d16 : Value) (d17 : Value) (d18 : Value) (d19 : Value) (v0_2 : Value) (v0_3 : Value) (v0_4 : Value) (p0 : Int32) : Met l yX11_night wsX11_night ({ frames := 1, cells := 0, slots := 0, locals := 20 }) (va_Pc [.ref h0, .int p0] (zPre dC dI cI cZ sz [(h0, .inr (11, [d0, d1, d2, d3, .ref h1, d5, d6, d7, d8, d9, d10, d11, d12, d13, d14, d15, d16, d17, d18, d19])), (h1, .inr (1, [.int 0, .int 0, v0_2, v0_3, v0_4]))])) (va_Qi (fun (r : Int32) (_ : Unit) => r = s_X11_night) (fun (_ : Unit) _ => True) (fun _ => False)) 0 0 (fun _ => False) := by
  refine Met.ofW (cc := cX11_night) (maxL := 2) (ret := (some .int)) (by decide) rfl ?_
  intro p e s m args below meth c s₁ B hml hv
  obtain ⟨rfl, hsz, hP, hK, hD0, hG⟩ := hv
  have hx := B.exec
  have hb := B.bytes
  have hr := B.returns
  have hts := atoms_spec (ws := wsX11_night) B.pre
  have hown : s.vm.findClass RX11 = some m.cls := findClass_of_methodNamed B.named
  have hlocks := B.notSynchronized
  subst hsz
  have hS : va_S (fun _ : Nat => False) s.heap s.heap [] := va_S.rf
  have hP : va_P (dC, dI) vwCl [(h0, .inr (11, [d0, d1, d2, d3, .ref h1, d5, d6, d7, d8, d9, d10, d11, d12, d13, d14, d15, d16, d17, d18, d19])), (h1, .inr (1, [.int 0, .int 0, v0_2, v0_3, v0_4]))] s.heap := hP
  have hl := lv_entry ([.ref h0, .int p0]) (n := 2) (Nat.le_of_ble_eq_true rfl)
  rw [lg_entry_eq]
  generalize (lg_sl ([.ref h0, .int p0]) ++ List.replicate (2 - (lg_sl ([.ref h0, .int p0])).length) Slot.unset).toArray = ls at hl ⊢
  have hl : lv_has ls 2 [(0, .ref h0), (1, .int p0)] := hl
  refine lv_aload_n hx hb dX11_night_0 rfl (lv_at hl 0 rfl) ?_
  have hPc := hP.sub (ws' := [(h0, .inr (11, [d0, d1, d2, d3, .ref h1, d5, d6, d7, d8, d9, d10, d11, d12, d13, d14, d15, d16, d17, d18, d19])), (h1, .inr (1, [.int 0, .int 0, v0_2, v0_3, v0_4]))]) [0, 1] rfl
  have hDc := hD0.sub (ws' := [(h0, .inr (11, [d0, d1, d2, d3, .ref h1, d5, d6, d7, d8, d9, d10, d11, d12, d13, d14, d15, d16, d17, d18, d19])), (h1, .inr (1, [.int 0, .int 0, v0_2, v0_3, v0_4]))]) [0, 1] (by decide) rfl
  refine va_calli (va_runV (As := []) (rest := []) ⟨hx, hb, hml, hown, hts⟩ (c_X11_hasFort l dC dI cI cZ s.heap.size h0 h1 d0 d1 d2 d3 d5 d6 d7 d8 d9 d10 d11 d12 d13 d14 d15 d16 d17 d18 d19 (.int 0) v0_2 v0_3 v0_4) (cwV 0 hts gX11_night_X11_hasFort rfl rfl rfl (by decide +kernel) ⟨Nat.le_of_ble_eq_true rfl, Nat.le_of_ble_eq_true rfl⟩) (zPreV hPc hK hDc hG (ci := 11) (q0 := 0) rfl rfl) rfl rfl hl.1 rfl (lv_room (Nat.le_of_ble_eq_true rfl)) dX11_night_1 ⟨Nat.le_of_ble_eq_true rfl, Nat.le_of_ble_eq_true rfl⟩) hS (fun _ _ h => h.elim) (fun _ h => h.elim) (fun r1 u9 t9 H1 locs ht9 hvm hwr1 hB9 hz1 hk1 hS => ?_)
  replace hP := zKept hP hk1
  try clear hB9 hz1 hk1 hvm ht9 u9 hPc hDc
  generalize H1 = H at hP hS ⊢
  obtain rfl : r1 = 0 := hwr1.trans rfl
  refine lv_if_ne (tgt := 9) hx hb dX11_night_4 (by decide) (fun c9 => absurd (by decide) c9) (fun _ => ?_)
  refine lv_iconst (v := (-1)) hx hb dX11_night_7 (by decide) ?_
  exact W.iret (v := (-1)) hx hb hr (fun t ht hW => ⟨⟨(-1), (), rfl, (by unfold s_X11_night; first | rfl | simp), trivial⟩, hS.F ht⟩) hS.2.2 dX11_night_8

def s_X11_odds : Int32 := (-1)
set_option maxHeartbeats 4000000 in
set_option maxRecDepth 100000 in
theorem c_X11_odds (l : Launch) (dC : Nat → ClassId) (dI : Nat → Nat → Nat) (cI cZ : ClassId) (sz : Nat) (h0 : Nat) (h1 : Nat) (d0 : Value) (d1 : Value) (d2 : Value) (d3 : Value) (d5 : Value) (d6 : Value) (d7 : Value) (d8 : Value) (d9 : Value) (d10 : Value) (d11 : Value) (d12 : Value) (d13 : Value) (d14 : Value) (d15 : Value) (d16 : Value) (d17 : Value) (d18 : Value) (d19 : Value) (v0_2 : Value) (v0_3 : Value) (v0_4 : Value) (p0 : Int32) : Met l yX11_odds wsX11_odds ({ frames := 1, cells := 0, slots := 0, locals := 20 }) (va_Pc [.ref h0, .int p0] (zPre dC dI cI cZ sz [(h0, .inr (11, [d0, d1, d2, d3, .ref h1, d5, d6, d7, d8, d9, d10, d11, d12, d13, d14, d15, d16, d17, d18, d19])), (h1, .inr (1, [.int 0, .int 0, v0_2, v0_3, v0_4]))])) (va_Qi (fun (r : Int32) (_ : Unit) => r = s_X11_odds) (fun (_ : Unit) _ => True) (fun _ => False)) 0 0 (fun _ => False) := by
  refine Met.ofW (cc := cX11_odds) (maxL := 5) (ret := (some .int)) (by decide) rfl ?_
  intro p e s m args below meth c s₁ B hml hv
  obtain ⟨rfl, hsz, hP, hK, hD0, hG⟩ := hv
  have hx := B.exec
  have hb := B.bytes
  have hr := B.returns
  have hts := atoms_spec (ws := wsX11_odds) B.pre
  have hown : s.vm.findClass RX11 = some m.cls := findClass_of_methodNamed B.named
  have hlocks := B.notSynchronized
  subst hsz
  have hS : va_S (fun _ : Nat => False) s.heap s.heap [] := va_S.rf
  have hP : va_P (dC, dI) vwCl [(h0, .inr (11, [d0, d1, d2, d3, .ref h1, d5, d6, d7, d8, d9, d10, d11, d12, d13, d14, d15, d16, d17, d18, d19])), (h1, .inr (1, [.int 0, .int 0, v0_2, v0_3, v0_4]))] s.heap := hP
  have hl := lv_entry ([.ref h0, .int p0]) (n := 5) (Nat.le_of_ble_eq_true rfl)
  rw [lg_entry_eq]
  generalize (lg_sl ([.ref h0, .int p0]) ++ List.replicate (5 - (lg_sl ([.ref h0, .int p0])).length) Slot.unset).toArray = ls at hl ⊢
  have hl : lv_has ls 5 [(0, .ref h0), (1, .int p0)] := hl
  refine lv_aload_n hx hb dX11_odds_0 rfl (lv_at hl 0 rfl) ?_
  have hPc := hP.sub (ws' := [(h0, .inr (11, [d0, d1, d2, d3, .ref h1, d5, d6, d7, d8, d9, d10, d11, d12, d13, d14, d15, d16, d17, d18, d19])), (h1, .inr (1, [.int 0, .int 0, v0_2, v0_3, v0_4]))]) [0, 1] rfl
  have hDc := hD0.sub (ws' := [(h0, .inr (11, [d0, d1, d2, d3, .ref h1, d5, d6, d7, d8, d9, d10, d11, d12, d13, d14, d15, d16, d17, d18, d19])), (h1, .inr (1, [.int 0, .int 0, v0_2, v0_3, v0_4]))]) [0, 1] (by decide) rfl
  refine va_calli (va_runV (As := []) (rest := []) ⟨hx, hb, hml, hown, hts⟩ (c_X11_hasFort l dC dI cI cZ s.heap.size h0 h1 d0 d1 d2 d3 d5 d6 d7 d8 d9 d10 d11 d12 d13 d14 d15 d16 d17 d18 d19 (.int 0) v0_2 v0_3 v0_4) (cwV 0 hts gX11_odds_X11_hasFort rfl rfl rfl (by decide +kernel) ⟨Nat.le_of_ble_eq_true rfl, Nat.le_of_ble_eq_true rfl⟩) (zPreV hPc hK hDc hG (ci := 11) (q0 := 0) rfl rfl) rfl rfl hl.1 rfl (lv_room (Nat.le_of_ble_eq_true rfl)) dX11_odds_1 ⟨Nat.le_of_ble_eq_true rfl, Nat.le_of_ble_eq_true rfl⟩) hS (fun _ _ h => h.elim) (fun _ h => h.elim) (fun r1 u9 t9 H1 locs ht9 hvm hwr1 hB9 hz1 hk1 hS => ?_)
  replace hP := zKept hP hk1
  try clear hB9 hz1 hk1 hvm ht9 u9 hPc hDc
  generalize H1 = H at hP hS ⊢
  obtain rfl : r1 = 0 := hwr1.trans rfl
  refine lv_if_eq (tgt := 17) hx hb dX11_odds_4 (by decide) (fun _ => ?_) (fun c9 => absurd (by decide) c9)
  refine lv_iconst (v := (-1)) hx hb dX11_odds_17 (by decide) ?_
  exact W.iret (v := (-1)) hx hb hr (fun t ht hW => ⟨⟨(-1), (), rfl, (by unfold s_X11_odds; first | rfl | simp), trivial⟩, hS.F ht⟩) hS.2.2 dX11_odds_18

def s_X11_stagger : Int32 := (-1)
set_option maxHeartbeats 4000000 in
set_option maxRecDepth 100000 in
theorem c_X11_stagger (l : Launch) (dC : Nat → ClassId) (dI : Nat → Nat → Nat) (cI cZ : ClassId) (sz : Nat) (h0 : Nat) (h1 : Nat) (d0 : Value) (d1 : Value) (d2 : Value) (d3 : Value) (d5 : Value) (d6 : Value) (d7 : Value) (d8 : Value) (d9 : Value) (d10 : Value) (d11 : Value) (d12 : Value) (d13 : Value) (d14 : Value) (d15 : Value) (d16 : Value) (d17 : Value) (d18 : Value) (d19 : Value) (v0_2 : Value) (v0_3 : Value) (v0_4 : Value) (p0 : Int32) : Met l yX11_stagger wsX11_stagger ({ frames := 1, cells := 0, slots := 0, locals := 20 }) (va_Pc [.ref h0, .int p0] (zPre dC dI cI cZ sz [(h0, .inr (11, [d0, d1, d2, d3, .ref h1, d5, d6, d7, d8, d9, d10, d11, d12, d13, d14, d15, d16, d17, d18, d19])), (h1, .inr (1, [.int 0, .int 0, v0_2, v0_3, v0_4]))])) (va_Qi (fun (r : Int32) (_ : Unit) => r = s_X11_stagger) (fun (_ : Unit) _ => True) (fun _ => False)) 0 0 (fun _ => False) := by
  refine Met.ofW (cc := cX11_stagger) (maxL := 2) (ret := (some .int)) (by decide) rfl ?_
  intro p e s m args below meth c s₁ B hml hv
  obtain ⟨rfl, hsz, hP, hK, hD0, hG⟩ := hv
  have hx := B.exec
  have hb := B.bytes
  have hr := B.returns
  have hts := atoms_spec (ws := wsX11_stagger) B.pre
  have hown : s.vm.findClass RX11 = some m.cls := findClass_of_methodNamed B.named
  have hlocks := B.notSynchronized
  subst hsz
  have hS : va_S (fun _ : Nat => False) s.heap s.heap [] := va_S.rf
  have hP : va_P (dC, dI) vwCl [(h0, .inr (11, [d0, d1, d2, d3, .ref h1, d5, d6, d7, d8, d9, d10, d11, d12, d13, d14, d15, d16, d17, d18, d19])), (h1, .inr (1, [.int 0, .int 0, v0_2, v0_3, v0_4]))] s.heap := hP
  have hl := lv_entry ([.ref h0, .int p0]) (n := 2) (Nat.le_of_ble_eq_true rfl)
  rw [lg_entry_eq]
  generalize (lg_sl ([.ref h0, .int p0]) ++ List.replicate (2 - (lg_sl ([.ref h0, .int p0])).length) Slot.unset).toArray = ls at hl ⊢
  have hl : lv_has ls 2 [(0, .ref h0), (1, .int p0)] := hl
  refine lv_aload_n hx hb dX11_stagger_0 rfl (lv_at hl 0 rfl) ?_
  have hPc := hP.sub (ws' := [(h0, .inr (11, [d0, d1, d2, d3, .ref h1, d5, d6, d7, d8, d9, d10, d11, d12, d13, d14, d15, d16, d17, d18, d19])), (h1, .inr (1, [.int 0, .int 0, v0_2, v0_3, v0_4]))]) [0, 1] rfl
  have hDc := hD0.sub (ws' := [(h0, .inr (11, [d0, d1, d2, d3, .ref h1, d5, d6, d7, d8, d9, d10, d11, d12, d13, d14, d15, d16, d17, d18, d19])), (h1, .inr (1, [.int 0, .int 0, v0_2, v0_3, v0_4]))]) [0, 1] (by decide) rfl
  refine va_calli (va_runV (As := []) (rest := []) ⟨hx, hb, hml, hown, hts⟩ (c_X11_hasFort l dC dI cI cZ s.heap.size h0 h1 d0 d1 d2 d3 d5 d6 d7 d8 d9 d10 d11 d12 d13 d14 d15 d16 d17 d18 d19 (.int 0) v0_2 v0_3 v0_4) (cwV 0 hts gX11_stagger_X11_hasFort rfl rfl rfl (by decide +kernel) ⟨Nat.le_of_ble_eq_true rfl, Nat.le_of_ble_eq_true rfl⟩) (zPreV hPc hK hDc hG (ci := 11) (q0 := 0) rfl rfl) rfl rfl hl.1 rfl (lv_room (Nat.le_of_ble_eq_true rfl)) dX11_stagger_1 ⟨Nat.le_of_ble_eq_true rfl, Nat.le_of_ble_eq_true rfl⟩) hS (fun _ _ h => h.elim) (fun _ h => h.elim) (fun r1 u9 t9 H1 locs ht9 hvm hwr1 hB9 hz1 hk1 hS => ?_)
  replace hP := zKept hP hk1
  try clear hB9 hz1 hk1 hvm ht9 u9 hPc hDc
  generalize H1 = H at hP hS ⊢
  obtain rfl : r1 = 0 := hwr1.trans rfl
  refine lv_if_eq (tgt := 16) hx hb dX11_stagger_4 (by decide) (fun _ => ?_) (fun c9 => absurd (by decide) c9)
  refine lv_iconst (v := (-1)) hx hb dX11_stagger_16 (by decide) ?_
  exact W.iret (v := (-1)) hx hb hr (fun t ht hW => ⟨⟨(-1), (), rfl, (by unfold s_X11_stagger; first | rfl | simp), trivial⟩, hS.F ht⟩) hS.2.2 dX11_stagger_17

def s_X11_ring : Int32 := (-1)
set_option maxHeartbeats 4000000 in
set_option maxRecDepth 100000 in
theorem c_X11_ring (l : Launch) (dC : Nat → ClassId) (dI : Nat → Nat → Nat) (cI cZ : ClassId) (sz : Nat) (h0 : Nat) (h1 : Nat) (d0 : Value) (d1 : Value) (d2 : Value) (d3 : Value) (d5 : Value) (d6 : Value) (d7 : Value) (d8 : Value) (d9 : Value) (d10 : Value) (d11 : Value) (d12 : Value) (d13 : Value) (d14 : Value) (d15 : Value) (d16 : Value) (d17 : Value) (d18 : Value) (d19 : Value) (v0_2 : Value) (v0_3 : Value) (v0_4 : Value) (p0 : Int32) : Met l yX11_ring wsX11_ring ({ frames := 1, cells := 0, slots := 0, locals := 20 }) (va_Pc [.ref h0, .int p0] (zPre dC dI cI cZ sz [(h0, .inr (11, [d0, d1, d2, d3, .ref h1, d5, d6, d7, d8, d9, d10, d11, d12, d13, d14, d15, d16, d17, d18, d19])), (h1, .inr (1, [.int 0, .int 0, v0_2, v0_3, v0_4]))])) (va_Qi (fun (r : Int32) (_ : Unit) => r = s_X11_ring) (fun (_ : Unit) _ => True) (fun _ => False)) 0 0 (fun _ => False) := by
  refine Met.ofW (cc := cX11_ring) (maxL := 6) (ret := (some .int)) (by decide) rfl ?_
  intro p e s m args below meth c s₁ B hml hv
  obtain ⟨rfl, hsz, hP, hK, hD0, hG⟩ := hv
  have hx := B.exec
  have hb := B.bytes
  have hr := B.returns
  have hts := atoms_spec (ws := wsX11_ring) B.pre
  have hown : s.vm.findClass RX11 = some m.cls := findClass_of_methodNamed B.named
  have hlocks := B.notSynchronized
  subst hsz
  have hS : va_S (fun _ : Nat => False) s.heap s.heap [] := va_S.rf
  have hP : va_P (dC, dI) vwCl [(h0, .inr (11, [d0, d1, d2, d3, .ref h1, d5, d6, d7, d8, d9, d10, d11, d12, d13, d14, d15, d16, d17, d18, d19])), (h1, .inr (1, [.int 0, .int 0, v0_2, v0_3, v0_4]))] s.heap := hP
  have hl := lv_entry ([.ref h0, .int p0]) (n := 6) (Nat.le_of_ble_eq_true rfl)
  rw [lg_entry_eq]
  generalize (lg_sl ([.ref h0, .int p0]) ++ List.replicate (6 - (lg_sl ([.ref h0, .int p0])).length) Slot.unset).toArray = ls at hl ⊢
  have hl : lv_has ls 6 [(0, .ref h0), (1, .int p0)] := hl
  refine lv_aload_n hx hb dX11_ring_0 rfl (lv_at hl 0 rfl) ?_
  have hPc := hP.sub (ws' := [(h0, .inr (11, [d0, d1, d2, d3, .ref h1, d5, d6, d7, d8, d9, d10, d11, d12, d13, d14, d15, d16, d17, d18, d19])), (h1, .inr (1, [.int 0, .int 0, v0_2, v0_3, v0_4]))]) [0, 1] rfl
  have hDc := hD0.sub (ws' := [(h0, .inr (11, [d0, d1, d2, d3, .ref h1, d5, d6, d7, d8, d9, d10, d11, d12, d13, d14, d15, d16, d17, d18, d19])), (h1, .inr (1, [.int 0, .int 0, v0_2, v0_3, v0_4]))]) [0, 1] (by decide) rfl
  refine va_calli (va_runV (As := []) (rest := []) ⟨hx, hb, hml, hown, hts⟩ (c_X11_hasFort l dC dI cI cZ s.heap.size h0 h1 d0 d1 d2 d3 d5 d6 d7 d8 d9 d10 d11 d12 d13 d14 d15 d16 d17 d18 d19 (.int 0) v0_2 v0_3 v0_4) (cwV 0 hts gX11_ring_X11_hasFort rfl rfl rfl (by decide +kernel) ⟨Nat.le_of_ble_eq_true rfl, Nat.le_of_ble_eq_true rfl⟩) (zPreV hPc hK hDc hG (ci := 11) (q0 := 0) rfl rfl) rfl rfl hl.1 rfl (lv_room (Nat.le_of_ble_eq_true rfl)) dX11_ring_1 ⟨Nat.le_of_ble_eq_true rfl, Nat.le_of_ble_eq_true rfl⟩) hS (fun _ _ h => h.elim) (fun _ h => h.elim) (fun r1 u9 t9 H1 locs ht9 hvm hwr1 hB9 hz1 hk1 hS => ?_)
  replace hP := zKept hP hk1
  try clear hB9 hz1 hk1 hvm ht9 u9 hPc hDc
  generalize H1 = H at hP hS ⊢
  obtain rfl : r1 = 0 := hwr1.trans rfl
  refine lv_if_eq (tgt := 16) hx hb dX11_ring_4 (by decide) (fun _ => ?_) (fun c9 => absurd (by decide) c9)
  refine lv_iconst (v := (-1)) hx hb dX11_ring_16 (by decide) ?_
  exact W.iret (v := (-1)) hx hb hr (fun t ht hW => ⟨⟨(-1), (), rfl, (by unfold s_X11_ring; first | rfl | simp), trivial⟩, hS.F ht⟩) hS.2.2 dX11_ring_17

def s_X11_who : Int32 := (-1)
set_option maxHeartbeats 4000000 in
set_option maxRecDepth 100000 in
theorem c_X11_who (l : Launch) (dC : Nat → ClassId) (dI : Nat → Nat → Nat) (cI cZ : ClassId) (sz : Nat) (h0 : Nat) (h1 : Nat) (d0 : Value) (d1 : Value) (d2 : Value) (d3 : Value) (d5 : Value) (d6 : Value) (d7 : Value) (d8 : Value) (d9 : Value) (d10 : Value) (d11 : Value) (d12 : Value) (d13 : Value) (d14 : Value) (d15 : Value) (d16 : Value) (d17 : Value) (d18 : Value) (d19 : Value) (v0_2 : Value) (v0_3 : Value) (v0_4 : Value) (p0 : Int32) (p1 : Int32) : Met l yX11_who wsX11_who ({ frames := 1, cells := 0, slots := 0, locals := 20 }) (va_Pc [.ref h0, .int p0, .int p1] (zPre dC dI cI cZ sz [(h0, .inr (11, [d0, d1, d2, d3, .ref h1, d5, d6, d7, d8, d9, d10, d11, d12, d13, d14, d15, d16, d17, d18, d19])), (h1, .inr (1, [.int 0, .int 0, v0_2, v0_3, v0_4]))])) (va_Qi (fun (r : Int32) (_ : Unit) => r = s_X11_who) (fun (_ : Unit) _ => True) (fun _ => False)) 0 0 (fun _ => False) := by
  refine Met.ofW (cc := cX11_who) (maxL := 3) (ret := (some .int)) (by decide) rfl ?_
  intro p e s m args below meth c s₁ B hml hv
  obtain ⟨rfl, hsz, hP, hK, hD0, hG⟩ := hv
  have hx := B.exec
  have hb := B.bytes
  have hr := B.returns
  have hts := atoms_spec (ws := wsX11_who) B.pre
  have hown : s.vm.findClass RX11 = some m.cls := findClass_of_methodNamed B.named
  have hlocks := B.notSynchronized
  subst hsz
  have hS : va_S (fun _ : Nat => False) s.heap s.heap [] := va_S.rf
  have hP : va_P (dC, dI) vwCl [(h0, .inr (11, [d0, d1, d2, d3, .ref h1, d5, d6, d7, d8, d9, d10, d11, d12, d13, d14, d15, d16, d17, d18, d19])), (h1, .inr (1, [.int 0, .int 0, v0_2, v0_3, v0_4]))] s.heap := hP
  have hl := lv_entry ([.ref h0, .int p0, .int p1]) (n := 3) (Nat.le_of_ble_eq_true rfl)
  rw [lg_entry_eq]
  generalize (lg_sl ([.ref h0, .int p0, .int p1]) ++ List.replicate (3 - (lg_sl ([.ref h0, .int p0, .int p1])).length) Slot.unset).toArray = ls at hl ⊢
  have hl : lv_has ls 3 [(0, .ref h0), (1, .int p0), (2, .int p1)] := hl
  refine lv_aload_n hx hb dX11_who_0 rfl (lv_at hl 0 rfl) ?_
  have hPc := hP.sub (ws' := [(h0, .inr (11, [d0, d1, d2, d3, .ref h1, d5, d6, d7, d8, d9, d10, d11, d12, d13, d14, d15, d16, d17, d18, d19])), (h1, .inr (1, [.int 0, .int 0, v0_2, v0_3, v0_4]))]) [0, 1] rfl
  have hDc := hD0.sub (ws' := [(h0, .inr (11, [d0, d1, d2, d3, .ref h1, d5, d6, d7, d8, d9, d10, d11, d12, d13, d14, d15, d16, d17, d18, d19])), (h1, .inr (1, [.int 0, .int 0, v0_2, v0_3, v0_4]))]) [0, 1] (by decide) rfl
  refine va_calli (va_runV (As := []) (rest := []) ⟨hx, hb, hml, hown, hts⟩ (c_X11_hasFort l dC dI cI cZ s.heap.size h0 h1 d0 d1 d2 d3 d5 d6 d7 d8 d9 d10 d11 d12 d13 d14 d15 d16 d17 d18 d19 (.int 0) v0_2 v0_3 v0_4) (cwV 0 hts gX11_who_X11_hasFort rfl rfl rfl (by decide +kernel) ⟨Nat.le_of_ble_eq_true rfl, Nat.le_of_ble_eq_true rfl⟩) (zPreV hPc hK hDc hG (ci := 11) (q0 := 0) rfl rfl) rfl rfl hl.1 rfl (lv_room (Nat.le_of_ble_eq_true rfl)) dX11_who_1 ⟨Nat.le_of_ble_eq_true rfl, Nat.le_of_ble_eq_true rfl⟩) hS (fun _ _ h => h.elim) (fun _ h => h.elim) (fun r1 u9 t9 H1 locs ht9 hvm hwr1 hB9 hz1 hk1 hS => ?_)
  replace hP := zKept hP hk1
  try clear hB9 hz1 hk1 hvm ht9 u9 hPc hDc
  generalize H1 = H at hP hS ⊢
  obtain rfl : r1 = 0 := hwr1.trans rfl
  refine lv_if_eq (tgt := 19) hx hb dX11_who_4 (by decide) (fun _ => ?_) (fun c9 => absurd (by decide) c9)
  refine lv_iconst (v := (-1)) hx hb dX11_who_19 (by decide) ?_
  exact W.iret (v := (-1)) hx hb hr (fun t ht hW => ⟨⟨(-1), (), rfl, (by unfold s_X11_who; first | rfl | simp), trivial⟩, hS.F ht⟩) hS.2.2 dX11_who_20

def s_X11_hourToAsk : Int32 := (-1)
set_option maxHeartbeats 4000000 in
set_option maxRecDepth 100000 in
theorem c_X11_hourToAsk (l : Launch) (dC : Nat → ClassId) (dI : Nat → Nat → Nat) (cI cZ : ClassId) (sz : Nat) (h0 : Nat) (h1 : Nat) (d0 : Value) (d1 : Value) (d2 : Value) (d3 : Value) (d5 : Value) (d6 : Value) (d7 : Value) (d8 : Value) (d9 : Value) (d10 : Value) (d11 : Value) (d12 : Value) (d13 : Value) (d14 : Value) (d15 : Value) (d16 : Value) (d17 : Value) (d18 : Value) (d19 : Value) (v0_2 : Value) (v0_3 : Value) (v0_4 : Value) (p0 : Int32) : Met l yX11_hourToAsk wsX11_hourToAsk ({ frames := 1, cells := 0, slots := 0, locals := 20 }) (va_Pc [.ref h0, .int p0] (zPre dC dI cI cZ sz [(h0, .inr (11, [d0, d1, d2, d3, .ref h1, d5, d6, d7, d8, d9, d10, d11, d12, d13, d14, d15, d16, d17, d18, d19])), (h1, .inr (1, [.int 0, .int 0, v0_2, v0_3, v0_4]))])) (va_Qi (fun (r : Int32) (_ : Unit) => r = s_X11_hourToAsk) (fun (_ : Unit) _ => True) (fun _ => False)) 0 0 (fun _ => False) := by
  refine Met.ofW (cc := cX11_hourToAsk) (maxL := 2) (ret := (some .int)) (by decide) rfl ?_
  intro p e s m args below meth c s₁ B hml hv
  obtain ⟨rfl, hsz, hP, hK, hD0, hG⟩ := hv
  have hx := B.exec
  have hb := B.bytes
  have hr := B.returns
  have hts := atoms_spec (ws := wsX11_hourToAsk) B.pre
  have hown : s.vm.findClass RX11 = some m.cls := findClass_of_methodNamed B.named
  have hlocks := B.notSynchronized
  subst hsz
  have hS : va_S (fun _ : Nat => False) s.heap s.heap [] := va_S.rf
  have hP : va_P (dC, dI) vwCl [(h0, .inr (11, [d0, d1, d2, d3, .ref h1, d5, d6, d7, d8, d9, d10, d11, d12, d13, d14, d15, d16, d17, d18, d19])), (h1, .inr (1, [.int 0, .int 0, v0_2, v0_3, v0_4]))] s.heap := hP
  have hl := lv_entry ([.ref h0, .int p0]) (n := 2) (Nat.le_of_ble_eq_true rfl)
  rw [lg_entry_eq]
  generalize (lg_sl ([.ref h0, .int p0]) ++ List.replicate (2 - (lg_sl ([.ref h0, .int p0])).length) Slot.unset).toArray = ls at hl ⊢
  have hl : lv_has ls 2 [(0, .ref h0), (1, .int p0)] := hl
  refine lv_aload_n hx hb dX11_hourToAsk_0 rfl (lv_at hl 0 rfl) ?_
  have hPc := hP.sub (ws' := [(h0, .inr (11, [d0, d1, d2, d3, .ref h1, d5, d6, d7, d8, d9, d10, d11, d12, d13, d14, d15, d16, d17, d18, d19])), (h1, .inr (1, [.int 0, .int 0, v0_2, v0_3, v0_4]))]) [0, 1] rfl
  have hDc := hD0.sub (ws' := [(h0, .inr (11, [d0, d1, d2, d3, .ref h1, d5, d6, d7, d8, d9, d10, d11, d12, d13, d14, d15, d16, d17, d18, d19])), (h1, .inr (1, [.int 0, .int 0, v0_2, v0_3, v0_4]))]) [0, 1] (by decide) rfl
  refine va_calli (va_runV (As := []) (rest := []) ⟨hx, hb, hml, hown, hts⟩ (c_X11_hasFort l dC dI cI cZ s.heap.size h0 h1 d0 d1 d2 d3 d5 d6 d7 d8 d9 d10 d11 d12 d13 d14 d15 d16 d17 d18 d19 (.int 0) v0_2 v0_3 v0_4) (cwV 0 hts gX11_hourToAsk_X11_hasFort rfl rfl rfl (by decide +kernel) ⟨Nat.le_of_ble_eq_true rfl, Nat.le_of_ble_eq_true rfl⟩) (zPreV hPc hK hDc hG (ci := 11) (q0 := 0) rfl rfl) rfl rfl hl.1 rfl (lv_room (Nat.le_of_ble_eq_true rfl)) dX11_hourToAsk_1 ⟨Nat.le_of_ble_eq_true rfl, Nat.le_of_ble_eq_true rfl⟩) hS (fun _ _ h => h.elim) (fun _ h => h.elim) (fun r1 u9 t9 H1 locs ht9 hvm hwr1 hB9 hz1 hk1 hS => ?_)
  replace hP := zKept hP hk1
  try clear hB9 hz1 hk1 hvm ht9 u9 hPc hDc
  generalize H1 = H at hP hS ⊢
  obtain rfl : r1 = 0 := hwr1.trans rfl
  refine lv_if_eq (tgt := 14) hx hb dX11_hourToAsk_4 (by decide) (fun _ => ?_) (fun c9 => absurd (by decide) c9)
  refine lv_iconst (v := (-1)) hx hb dX11_hourToAsk_14 (by decide) ?_
  exact W.iret (v := (-1)) hx hb hr (fun t ht hW => ⟨⟨(-1), (), rfl, (by unfold s_X11_hourToAsk; first | rfl | simp), trivial⟩, hS.F ht⟩) hS.2.2 dX11_hourToAsk_15

def s_X11_liars : Int32 := (-1)
set_option maxHeartbeats 4000000 in
set_option maxRecDepth 100000 in
theorem c_X11_liars (l : Launch) (dC : Nat → ClassId) (dI : Nat → Nat → Nat) (cI cZ : ClassId) (sz : Nat) (h0 : Nat) (h1 : Nat) (d0 : Value) (d1 : Value) (d2 : Value) (d3 : Value) (d5 : Value) (d6 : Value) (d7 : Value) (d8 : Value) (d9 : Value) (d10 : Value) (d11 : Value) (d12 : Value) (d13 : Value) (d14 : Value) (d15 : Value) (d16 : Value) (d17 : Value) (d18 : Value) (d19 : Value) (v0_2 : Value) (v0_3 : Value) (v0_4 : Value) : Met l yX11_liars wsX11_liars ({ frames := 1, cells := 0, slots := 0, locals := 20 }) (va_Pc [.ref h0] (zPre dC dI cI cZ sz [(h0, .inr (11, [d0, d1, d2, d3, .ref h1, d5, d6, d7, d8, d9, d10, d11, d12, d13, d14, d15, d16, d17, d18, d19])), (h1, .inr (1, [.int 0, .int 0, v0_2, v0_3, v0_4]))])) (va_Qi (fun (r : Int32) (_ : Unit) => r = s_X11_liars) (fun (_ : Unit) _ => True) (fun _ => False)) 0 0 (fun _ => False) := by
  refine Met.ofW (cc := cX11_liars) (maxL := 5) (ret := (some .int)) (by decide) rfl ?_
  intro p e s m args below meth c s₁ B hml hv
  obtain ⟨rfl, hsz, hP, hK, hD0, hG⟩ := hv
  have hx := B.exec
  have hb := B.bytes
  have hr := B.returns
  have hts := atoms_spec (ws := wsX11_liars) B.pre
  have hown : s.vm.findClass RX11 = some m.cls := findClass_of_methodNamed B.named
  have hlocks := B.notSynchronized
  subst hsz
  have hS : va_S (fun _ : Nat => False) s.heap s.heap [] := va_S.rf
  have hP : va_P (dC, dI) vwCl [(h0, .inr (11, [d0, d1, d2, d3, .ref h1, d5, d6, d7, d8, d9, d10, d11, d12, d13, d14, d15, d16, d17, d18, d19])), (h1, .inr (1, [.int 0, .int 0, v0_2, v0_3, v0_4]))] s.heap := hP
  have hl := lv_entry ([.ref h0]) (n := 5) (Nat.le_of_ble_eq_true rfl)
  rw [lg_entry_eq]
  generalize (lg_sl ([.ref h0]) ++ List.replicate (5 - (lg_sl ([.ref h0])).length) Slot.unset).toArray = ls at hl ⊢
  have hl : lv_has ls 5 [(0, .ref h0)] := hl
  refine lv_aload_n hx hb dX11_liars_0 rfl (lv_at hl 0 rfl) ?_
  have hPc := hP.sub (ws' := [(h0, .inr (11, [d0, d1, d2, d3, .ref h1, d5, d6, d7, d8, d9, d10, d11, d12, d13, d14, d15, d16, d17, d18, d19])), (h1, .inr (1, [.int 0, .int 0, v0_2, v0_3, v0_4]))]) [0, 1] rfl
  have hDc := hD0.sub (ws' := [(h0, .inr (11, [d0, d1, d2, d3, .ref h1, d5, d6, d7, d8, d9, d10, d11, d12, d13, d14, d15, d16, d17, d18, d19])), (h1, .inr (1, [.int 0, .int 0, v0_2, v0_3, v0_4]))]) [0, 1] (by decide) rfl
  refine va_calli (va_runV (As := []) (rest := []) ⟨hx, hb, hml, hown, hts⟩ (c_X11_hasFort l dC dI cI cZ s.heap.size h0 h1 d0 d1 d2 d3 d5 d6 d7 d8 d9 d10 d11 d12 d13 d14 d15 d16 d17 d18 d19 (.int 0) v0_2 v0_3 v0_4) (cwV 0 hts gX11_liars_X11_hasFort rfl rfl rfl (by decide +kernel) ⟨Nat.le_of_ble_eq_true rfl, Nat.le_of_ble_eq_true rfl⟩) (zPreV hPc hK hDc hG (ci := 11) (q0 := 0) rfl rfl) rfl rfl hl.1 rfl (lv_room (Nat.le_of_ble_eq_true rfl)) dX11_liars_1 ⟨Nat.le_of_ble_eq_true rfl, Nat.le_of_ble_eq_true rfl⟩) hS (fun _ _ h => h.elim) (fun _ h => h.elim) (fun r1 u9 t9 H1 locs ht9 hvm hwr1 hB9 hz1 hk1 hS => ?_)
  replace hP := zKept hP hk1
  try clear hB9 hz1 hk1 hvm ht9 u9 hPc hDc
  generalize H1 = H at hP hS ⊢
  obtain rfl : r1 = 0 := hwr1.trans rfl
  refine lv_if_ne (tgt := 9) hx hb dX11_liars_4 (by decide) (fun c9 => absurd (by decide) c9) (fun _ => ?_)
  refine lv_iconst (v := (-1)) hx hb dX11_liars_7 (by decide) ?_
  exact W.iret (v := (-1)) hx hb hr (fun t ht hW => ⟨⟨(-1), (), rfl, (by unfold s_X11_liars; first | rfl | simp), trivial⟩, hS.F ht⟩) hS.2.2 dX11_liars_8

def s_X11_most : Int32 := (-1)
set_option maxHeartbeats 4000000 in
set_option maxRecDepth 100000 in
theorem c_X11_most (l : Launch) (dC : Nat → ClassId) (dI : Nat → Nat → Nat) (cI cZ : ClassId) (sz : Nat) (h0 : Nat) (h1 : Nat) (d0 : Value) (d1 : Value) (d2 : Value) (d3 : Value) (d5 : Value) (d6 : Value) (d7 : Value) (d8 : Value) (d9 : Value) (d10 : Value) (d11 : Value) (d12 : Value) (d13 : Value) (d14 : Value) (d15 : Value) (d16 : Value) (d17 : Value) (d18 : Value) (d19 : Value) (v0_2 : Value) (v0_3 : Value) (v0_4 : Value) (p0 : Int32) : Met l yX11_most wsX11_most ({ frames := 1, cells := 0, slots := 0, locals := 20 }) (va_Pc [.ref h0, .int p0] (zPre dC dI cI cZ sz [(h0, .inr (11, [d0, d1, d2, d3, .ref h1, d5, d6, d7, d8, d9, d10, d11, d12, d13, d14, d15, d16, d17, d18, d19])), (h1, .inr (1, [.int 0, .int 0, v0_2, v0_3, v0_4]))])) (va_Qi (fun (r : Int32) (_ : Unit) => r = s_X11_most) (fun (_ : Unit) _ => True) (fun _ => False)) 0 0 (fun _ => False) := by
  refine Met.ofW (cc := cX11_most) (maxL := 2) (ret := (some .int)) (by decide) rfl ?_
  intro p e s m args below meth c s₁ B hml hv
  obtain ⟨rfl, hsz, hP, hK, hD0, hG⟩ := hv
  have hx := B.exec
  have hb := B.bytes
  have hr := B.returns
  have hts := atoms_spec (ws := wsX11_most) B.pre
  have hown : s.vm.findClass RX11 = some m.cls := findClass_of_methodNamed B.named
  have hlocks := B.notSynchronized
  subst hsz
  have hS : va_S (fun _ : Nat => False) s.heap s.heap [] := va_S.rf
  have hP : va_P (dC, dI) vwCl [(h0, .inr (11, [d0, d1, d2, d3, .ref h1, d5, d6, d7, d8, d9, d10, d11, d12, d13, d14, d15, d16, d17, d18, d19])), (h1, .inr (1, [.int 0, .int 0, v0_2, v0_3, v0_4]))] s.heap := hP
  have hl := lv_entry ([.ref h0, .int p0]) (n := 2) (Nat.le_of_ble_eq_true rfl)
  rw [lg_entry_eq]
  generalize (lg_sl ([.ref h0, .int p0]) ++ List.replicate (2 - (lg_sl ([.ref h0, .int p0])).length) Slot.unset).toArray = ls at hl ⊢
  have hl : lv_has ls 2 [(0, .ref h0), (1, .int p0)] := hl
  refine lv_aload_n hx hb dX11_most_0 rfl (lv_at hl 0 rfl) ?_
  have hPc := hP.sub (ws' := [(h0, .inr (11, [d0, d1, d2, d3, .ref h1, d5, d6, d7, d8, d9, d10, d11, d12, d13, d14, d15, d16, d17, d18, d19])), (h1, .inr (1, [.int 0, .int 0, v0_2, v0_3, v0_4]))]) [0, 1] rfl
  have hDc := hD0.sub (ws' := [(h0, .inr (11, [d0, d1, d2, d3, .ref h1, d5, d6, d7, d8, d9, d10, d11, d12, d13, d14, d15, d16, d17, d18, d19])), (h1, .inr (1, [.int 0, .int 0, v0_2, v0_3, v0_4]))]) [0, 1] (by decide) rfl
  refine va_calli (va_runV (As := []) (rest := []) ⟨hx, hb, hml, hown, hts⟩ (c_X11_hasFort l dC dI cI cZ s.heap.size h0 h1 d0 d1 d2 d3 d5 d6 d7 d8 d9 d10 d11 d12 d13 d14 d15 d16 d17 d18 d19 (.int 0) v0_2 v0_3 v0_4) (cwV 0 hts gX11_most_X11_hasFort rfl rfl rfl (by decide +kernel) ⟨Nat.le_of_ble_eq_true rfl, Nat.le_of_ble_eq_true rfl⟩) (zPreV hPc hK hDc hG (ci := 11) (q0 := 0) rfl rfl) rfl rfl hl.1 rfl (lv_room (Nat.le_of_ble_eq_true rfl)) dX11_most_1 ⟨Nat.le_of_ble_eq_true rfl, Nat.le_of_ble_eq_true rfl⟩) hS (fun _ _ h => h.elim) (fun _ h => h.elim) (fun r1 u9 t9 H1 locs ht9 hvm hwr1 hB9 hz1 hk1 hS => ?_)
  replace hP := zKept hP hk1
  try clear hB9 hz1 hk1 hvm ht9 u9 hPc hDc
  generalize H1 = H at hP hS ⊢
  obtain rfl : r1 = 0 := hwr1.trans rfl
  refine lv_if_ne (tgt := 9) hx hb dX11_most_4 (by decide) (fun c9 => absurd (by decide) c9) (fun _ => ?_)
  refine lv_iconst (v := (-1)) hx hb dX11_most_7 (by decide) ?_
  exact W.iret (v := (-1)) hx hb hr (fun t ht hW => ⟨⟨(-1), (), rfl, (by unfold s_X11_most; first | rfl | simp), trivial⟩, hS.F ht⟩) hS.2.2 dX11_most_8

def s_X11_image : Int32 := (-1)
set_option maxHeartbeats 4000000 in
set_option maxRecDepth 100000 in
theorem c_X11_image (l : Launch) (dC : Nat → ClassId) (dI : Nat → Nat → Nat) (cI cZ : ClassId) (sz : Nat) (h0 : Nat) (h1 : Nat) (d0 : Value) (d1 : Value) (d2 : Value) (d3 : Value) (d5 : Value) (d6 : Value) (d7 : Value) (d8 : Value) (d9 : Value) (d10 : Value) (d11 : Value) (d12 : Value) (d13 : Value) (d14 : Value) (d15 : Value) (d16 : Value) (d17 : Value) (d18 : Value) (d19 : Value) (v0_2 : Value) (v0_3 : Value) (v0_4 : Value) : Met l yX11_image wsX11_image ({ frames := 1, cells := 0, slots := 0, locals := 20 }) (va_Pc [.ref h0] (zPre dC dI cI cZ sz [(h0, .inr (11, [d0, d1, d2, d3, .ref h1, d5, d6, d7, d8, d9, d10, d11, d12, d13, d14, d15, d16, d17, d18, d19])), (h1, .inr (1, [.int 0, .int 0, v0_2, v0_3, v0_4]))])) (va_Qi (fun (r : Int32) (_ : Unit) => r = s_X11_image) (fun (_ : Unit) _ => True) (fun _ => False)) 0 0 (fun _ => False) := by
  refine Met.ofW (cc := cX11_image) (maxL := 1) (ret := (some .int)) (by decide) rfl ?_
  intro p e s m args below meth c s₁ B hml hv
  obtain ⟨rfl, hsz, hP, hK, hD0, hG⟩ := hv
  have hx := B.exec
  have hb := B.bytes
  have hr := B.returns
  have hts := atoms_spec (ws := wsX11_image) B.pre
  have hown : s.vm.findClass RX11 = some m.cls := findClass_of_methodNamed B.named
  have hlocks := B.notSynchronized
  subst hsz
  have hS : va_S (fun _ : Nat => False) s.heap s.heap [] := va_S.rf
  have hP : va_P (dC, dI) vwCl [(h0, .inr (11, [d0, d1, d2, d3, .ref h1, d5, d6, d7, d8, d9, d10, d11, d12, d13, d14, d15, d16, d17, d18, d19])), (h1, .inr (1, [.int 0, .int 0, v0_2, v0_3, v0_4]))] s.heap := hP
  have hl := lv_entry ([.ref h0]) (n := 1) (Nat.le_of_ble_eq_true rfl)
  rw [lg_entry_eq]
  generalize (lg_sl ([.ref h0]) ++ List.replicate (1 - (lg_sl ([.ref h0])).length) Slot.unset).toArray = ls at hl ⊢
  have hl : lv_has ls 1 [(0, .ref h0)] := hl
  refine lv_aload_n hx hb dX11_image_0 rfl (lv_at hl 0 rfl) ?_
  have hPc := hP.sub (ws' := [(h0, .inr (11, [d0, d1, d2, d3, .ref h1, d5, d6, d7, d8, d9, d10, d11, d12, d13, d14, d15, d16, d17, d18, d19])), (h1, .inr (1, [.int 0, .int 0, v0_2, v0_3, v0_4]))]) [0, 1] rfl
  have hDc := hD0.sub (ws' := [(h0, .inr (11, [d0, d1, d2, d3, .ref h1, d5, d6, d7, d8, d9, d10, d11, d12, d13, d14, d15, d16, d17, d18, d19])), (h1, .inr (1, [.int 0, .int 0, v0_2, v0_3, v0_4]))]) [0, 1] (by decide) rfl
  refine va_calli (va_runV (As := []) (rest := []) ⟨hx, hb, hml, hown, hts⟩ (c_X11_hasFort l dC dI cI cZ s.heap.size h0 h1 d0 d1 d2 d3 d5 d6 d7 d8 d9 d10 d11 d12 d13 d14 d15 d16 d17 d18 d19 (.int 0) v0_2 v0_3 v0_4) (cwV 0 hts gX11_image_X11_hasFort rfl rfl rfl (by decide +kernel) ⟨Nat.le_of_ble_eq_true rfl, Nat.le_of_ble_eq_true rfl⟩) (zPreV hPc hK hDc hG (ci := 11) (q0 := 0) rfl rfl) rfl rfl hl.1 rfl (lv_room (Nat.le_of_ble_eq_true rfl)) dX11_image_1 ⟨Nat.le_of_ble_eq_true rfl, Nat.le_of_ble_eq_true rfl⟩) hS (fun _ _ h => h.elim) (fun _ h => h.elim) (fun r1 u9 t9 H1 locs ht9 hvm hwr1 hB9 hz1 hk1 hS => ?_)
  replace hP := zKept hP hk1
  try clear hB9 hz1 hk1 hvm ht9 u9 hPc hDc
  generalize H1 = H at hP hS ⊢
  obtain rfl : r1 = 0 := hwr1.trans rfl
  refine lv_if_ne (tgt := 9) hx hb dX11_image_4 (by decide) (fun c9 => absurd (by decide) c9) (fun _ => ?_)
  refine lv_iconst (v := (-1)) hx hb dX11_image_7 (by decide) ?_
  exact W.iret (v := (-1)) hx hb hr (fun t ht hW => ⟨⟨(-1), (), rfl, (by unfold s_X11_image; first | rfl | simp), trivial⟩, hS.F ht⟩) hS.2.2 dX11_image_8

def s_X11_sleeps : Int32 := (-1)
set_option maxHeartbeats 4000000 in
set_option maxRecDepth 100000 in
theorem c_X11_sleeps (l : Launch) (dC : Nat → ClassId) (dI : Nat → Nat → Nat) (cI cZ : ClassId) (sz : Nat) (h0 : Nat) (h1 : Nat) (d0 : Value) (d1 : Value) (d2 : Value) (d3 : Value) (d5 : Value) (d6 : Value) (d7 : Value) (d8 : Value) (d9 : Value) (d10 : Value) (d11 : Value) (d12 : Value) (d13 : Value) (d14 : Value) (d15 : Value) (d16 : Value) (d17 : Value) (d18 : Value) (d19 : Value) (v0_2 : Value) (v0_3 : Value) (v0_4 : Value) (p0 : Int32) (p1 : Int32) : Met l yX11_sleeps wsX11_sleeps ({ frames := 1, cells := 0, slots := 0, locals := 21 }) (va_Pc [.ref h0, .int p0, .int p1] (zPre dC dI cI cZ sz [(h0, .inr (11, [d0, d1, d2, d3, .ref h1, d5, d6, d7, d8, d9, d10, d11, d12, d13, d14, d15, d16, d17, d18, d19])), (h1, .inr (1, [.int 0, .int 0, v0_2, v0_3, v0_4]))])) (va_Qi (fun (r : Int32) (_ : Unit) => r = s_X11_sleeps) (fun (_ : Unit) _ => True) (fun _ => False)) 0 0 (fun _ => False) := by
  refine Met.ofW (cc := cX11_sleeps) (maxL := 3) (ret := (some .int)) (by decide) rfl ?_
  intro p e s m args below meth c s₁ B hml hv
  obtain ⟨rfl, hsz, hP, hK, hD0, hG⟩ := hv
  have hx := B.exec
  have hb := B.bytes
  have hr := B.returns
  have hts := atoms_spec (ws := wsX11_sleeps) B.pre
  have hown : s.vm.findClass RX11 = some m.cls := findClass_of_methodNamed B.named
  have hlocks := B.notSynchronized
  have hinX11 : ∀ w ∈ wsX110, w ∈ wsX11_sleeps := by decide +kernel
  subst hsz
  have hS : va_S (fun _ : Nat => False) s.heap s.heap [] := va_S.rf
  have hP : va_P (dC, dI) vwCl [(h0, .inr (11, [d0, d1, d2, d3, .ref h1, d5, d6, d7, d8, d9, d10, d11, d12, d13, d14, d15, d16, d17, d18, d19])), (h1, .inr (1, [.int 0, .int 0, v0_2, v0_3, v0_4]))] s.heap := hP
  have hl := lv_entry ([.ref h0, .int p0, .int p1]) (n := 3) (Nat.le_of_ble_eq_true rfl)
  rw [lg_entry_eq]
  generalize (lg_sl ([.ref h0, .int p0, .int p1]) ++ List.replicate (3 - (lg_sl ([.ref h0, .int p0, .int p1])).length) Slot.unset).toArray = ls at hl ⊢
  have hl : lv_has ls 3 [(0, .ref h0), (1, .int p0), (2, .int p1)] := hl
  refine lv_aload_n hx hb dX11_sleeps_0 rfl (lv_at hl 0 rfl) ?_
  refine va_get (D := (dC, dI)) (ci := 11) (v := .ref h1) (C := RX11) (T := TX11) (N := 20) hx hb hts hinX11 hown hK hP 0 rfl rfl 4 (by decide) (hts (.fieldLink RX11 42 "DreamGuard" "fort" "LDreamGuard$Fort;") (by decide +kernel)) (fun _ h9 => h9) rfl dX11_sleeps_1 ?_
  refine lv_iload_n hx hb dX11_sleeps_4 rfl (lv_at hl 1 rfl) ?_
  have hPc := hP.sub (ws' := [(h1, .inr (1, [.int 0, .int 0, v0_2, v0_3, v0_4]))]) [1] rfl
  have hDc := hD0.sub (ws' := [(h1, .inr (1, [.int 0, .int 0, v0_2, v0_3, v0_4]))]) [1] (by decide) rfl
  refine va_calli (va_runV (As := [.int p0]) (rest := []) ⟨hx, hb, hml, hown, hts⟩ (c_X1_hasMan l dC dI cI cZ s.heap.size h1 0 (.int 0) v0_2 v0_3 v0_4 p0) (cwV 1 hts gX11_sleeps_X1_hasMan rfl rfl rfl (by decide +kernel) ⟨Nat.le_of_ble_eq_true rfl, Nat.le_of_ble_eq_true rfl⟩) (zPreV hPc hK hDc hG (ci := 1) (q0 := 0) rfl rfl) rfl rfl hl.1 rfl (lv_room (Nat.le_of_ble_eq_true rfl)) dX11_sleeps_5 ⟨Nat.le_of_ble_eq_true rfl, Nat.le_of_ble_eq_true rfl⟩) hS (fun _ _ h => h.elim) (fun _ h => h.elim) (fun r1 u9 t9 H1 locs ht9 hvm hwr1 hB9 hz1 hk1 hS => ?_)
  replace hP := zKept hP hk1
  try clear hB9 hz1 hk1 hvm ht9 u9 hPc hDc
  generalize H1 = H at hP hS ⊢
  obtain rfl : r1 = 0 := hwr1.trans (zs_hasMan0 p0)
  refine lv_if_eq (tgt := 22) hx hb dX11_sleeps_8 (by decide) (fun _ => ?_) (fun c9 => absurd (by decide) c9)
  refine lv_iconst (v := (-1)) hx hb dX11_sleeps_22 (by decide) ?_
  exact W.iret (v := (-1)) hx hb hr (fun t ht hW => ⟨⟨(-1), (), rfl, (by unfold s_X11_sleeps; first | rfl | simp), trivial⟩, hS.F ht⟩) hS.2.2 dX11_sleeps_23

def s_X11_dream : Int32 := (-1)
set_option maxHeartbeats 4000000 in
set_option maxRecDepth 100000 in
theorem c_X11_dream (l : Launch) (dC : Nat → ClassId) (dI : Nat → Nat → Nat) (cI cZ : ClassId) (sz : Nat) (h0 : Nat) (h1 : Nat) (d0 : Value) (d1 : Value) (d2 : Value) (d3 : Value) (d5 : Value) (d6 : Value) (d7 : Value) (d8 : Value) (d9 : Value) (d10 : Value) (d11 : Value) (d12 : Value) (d13 : Value) (d14 : Value) (d15 : Value) (d16 : Value) (d17 : Value) (d18 : Value) (d19 : Value) (v0_2 : Value) (v0_3 : Value) (v0_4 : Value) (p0 : Int32) (p1 : Int32) : Met l yX11_dream wsX11_dream ({ frames := 1, cells := 0, slots := 0, locals := 21 }) (va_Pc [.ref h0, .int p0, .int p1] (zPre dC dI cI cZ sz [(h0, .inr (11, [d0, d1, d2, d3, .ref h1, d5, d6, d7, d8, d9, d10, d11, d12, d13, d14, d15, d16, d17, d18, d19])), (h1, .inr (1, [.int 0, .int 0, v0_2, v0_3, v0_4]))])) (va_Qi (fun (r : Int32) (_ : Unit) => r = s_X11_dream) (fun (_ : Unit) _ => True) (fun _ => False)) 0 0 (fun _ => False) := by
  refine Met.ofW (cc := cX11_dream) (maxL := 3) (ret := (some .int)) (by decide) rfl ?_
  intro p e s m args below meth c s₁ B hml hv
  obtain ⟨rfl, hsz, hP, hK, hD0, hG⟩ := hv
  have hx := B.exec
  have hb := B.bytes
  have hr := B.returns
  have hts := atoms_spec (ws := wsX11_dream) B.pre
  have hown : s.vm.findClass RX11 = some m.cls := findClass_of_methodNamed B.named
  have hlocks := B.notSynchronized
  have hinX11 : ∀ w ∈ wsX110, w ∈ wsX11_dream := by decide +kernel
  subst hsz
  have hS : va_S (fun _ : Nat => False) s.heap s.heap [] := va_S.rf
  have hP : va_P (dC, dI) vwCl [(h0, .inr (11, [d0, d1, d2, d3, .ref h1, d5, d6, d7, d8, d9, d10, d11, d12, d13, d14, d15, d16, d17, d18, d19])), (h1, .inr (1, [.int 0, .int 0, v0_2, v0_3, v0_4]))] s.heap := hP
  have hl := lv_entry ([.ref h0, .int p0, .int p1]) (n := 3) (Nat.le_of_ble_eq_true rfl)
  rw [lg_entry_eq]
  generalize (lg_sl ([.ref h0, .int p0, .int p1]) ++ List.replicate (3 - (lg_sl ([.ref h0, .int p0, .int p1])).length) Slot.unset).toArray = ls at hl ⊢
  have hl : lv_has ls 3 [(0, .ref h0), (1, .int p0), (2, .int p1)] := hl
  refine lv_aload_n hx hb dX11_dream_0 rfl (lv_at hl 0 rfl) ?_
  refine va_get (D := (dC, dI)) (ci := 11) (v := .ref h1) (C := RX11) (T := TX11) (N := 20) hx hb hts hinX11 hown hK hP 0 rfl rfl 4 (by decide) (hts (.fieldLink RX11 42 "DreamGuard" "fort" "LDreamGuard$Fort;") (by decide +kernel)) (fun _ h9 => h9) rfl dX11_dream_1 ?_
  refine lv_iload_n hx hb dX11_dream_4 rfl (lv_at hl 1 rfl) ?_
  have hPc := hP.sub (ws' := [(h1, .inr (1, [.int 0, .int 0, v0_2, v0_3, v0_4]))]) [1] rfl
  have hDc := hD0.sub (ws' := [(h1, .inr (1, [.int 0, .int 0, v0_2, v0_3, v0_4]))]) [1] (by decide) rfl
  refine va_calli (va_runV (As := [.int p0]) (rest := []) ⟨hx, hb, hml, hown, hts⟩ (c_X1_hasMan l dC dI cI cZ s.heap.size h1 0 (.int 0) v0_2 v0_3 v0_4 p0) (cwV 1 hts gX11_dream_X1_hasMan rfl rfl rfl (by decide +kernel) ⟨Nat.le_of_ble_eq_true rfl, Nat.le_of_ble_eq_true rfl⟩) (zPreV hPc hK hDc hG (ci := 1) (q0 := 0) rfl rfl) rfl rfl hl.1 rfl (lv_room (Nat.le_of_ble_eq_true rfl)) dX11_dream_5 ⟨Nat.le_of_ble_eq_true rfl, Nat.le_of_ble_eq_true rfl⟩) hS (fun _ _ h => h.elim) (fun _ h => h.elim) (fun r1 u9 t9 H1 locs ht9 hvm hwr1 hB9 hz1 hk1 hS => ?_)
  replace hP := zKept hP hk1
  try clear hB9 hz1 hk1 hvm ht9 u9 hPc hDc
  generalize H1 = H at hP hS ⊢
  obtain rfl : r1 = 0 := hwr1.trans (zs_hasMan0 p0)
  refine lv_if_eq (tgt := 22) hx hb dX11_dream_8 (by decide) (fun _ => ?_) (fun c9 => absurd (by decide) c9)
  refine lv_iconst (v := (-1)) hx hb dX11_dream_22 (by decide) ?_
  exact W.iret (v := (-1)) hx hb hr (fun t ht hW => ⟨⟨(-1), (), rfl, (by unfold s_X11_dream; first | rfl | simp), trivial⟩, hS.F ht⟩) hS.2.2 dX11_dream_23

def s_X11_slept : Int32 := (-1000000)
set_option maxHeartbeats 4000000 in
set_option maxRecDepth 100000 in
theorem c_X11_slept (l : Launch) (dC : Nat → ClassId) (dI : Nat → Nat → Nat) (cI cZ : ClassId) (sz : Nat) (h0 : Nat) (h1 : Nat) (d0 : Value) (d1 : Value) (d2 : Value) (d3 : Value) (d5 : Value) (d6 : Value) (d7 : Value) (d8 : Value) (d9 : Value) (d10 : Value) (d11 : Value) (d12 : Value) (d13 : Value) (d14 : Value) (d15 : Value) (d16 : Value) (d17 : Value) (d18 : Value) (d19 : Value) (v0_2 : Value) (v0_3 : Value) (v0_4 : Value) (p0 : Int32) (p1 : Int32) : Met l yX11_slept wsX11_slept ({ frames := 1, cells := 0, slots := 0, locals := 21 }) (va_Pc [.ref h0, .int p0, .int p1] (zPre dC dI cI cZ sz [(h0, .inr (11, [d0, d1, d2, d3, .ref h1, d5, d6, d7, d8, d9, d10, d11, d12, d13, d14, d15, d16, d17, d18, d19])), (h1, .inr (1, [.int 0, .int 0, v0_2, v0_3, v0_4]))])) (va_Qi (fun (r : Int32) (_ : Unit) => r = s_X11_slept) (fun (_ : Unit) _ => True) (fun _ => False)) 0 0 (fun _ => False) := by
  refine Met.ofW (cc := cX11_slept) (maxL := 3) (ret := (some .int)) (by decide) rfl ?_
  intro p e s m args below meth c s₁ B hml hv
  obtain ⟨rfl, hsz, hP, hK, hD0, hG⟩ := hv
  have hx := B.exec
  have hb := B.bytes
  have hr := B.returns
  have hts := atoms_spec (ws := wsX11_slept) B.pre
  have hown : s.vm.findClass RX11 = some m.cls := findClass_of_methodNamed B.named
  have hlocks := B.notSynchronized
  have hinX11 : ∀ w ∈ wsX110, w ∈ wsX11_slept := by decide +kernel
  subst hsz
  have hS : va_S (fun _ : Nat => False) s.heap s.heap [] := va_S.rf
  have hP : va_P (dC, dI) vwCl [(h0, .inr (11, [d0, d1, d2, d3, .ref h1, d5, d6, d7, d8, d9, d10, d11, d12, d13, d14, d15, d16, d17, d18, d19])), (h1, .inr (1, [.int 0, .int 0, v0_2, v0_3, v0_4]))] s.heap := hP
  have hl := lv_entry ([.ref h0, .int p0, .int p1]) (n := 3) (Nat.le_of_ble_eq_true rfl)
  rw [lg_entry_eq]
  generalize (lg_sl ([.ref h0, .int p0, .int p1]) ++ List.replicate (3 - (lg_sl ([.ref h0, .int p0, .int p1])).length) Slot.unset).toArray = ls at hl ⊢
  have hl : lv_has ls 3 [(0, .ref h0), (1, .int p0), (2, .int p1)] := hl
  refine lv_aload_n hx hb dX11_slept_0 rfl (lv_at hl 0 rfl) ?_
  refine va_get (D := (dC, dI)) (ci := 11) (v := .ref h1) (C := RX11) (T := TX11) (N := 20) hx hb hts hinX11 hown hK hP 0 rfl rfl 4 (by decide) (hts (.fieldLink RX11 42 "DreamGuard" "fort" "LDreamGuard$Fort;") (by decide +kernel)) (fun _ h9 => h9) rfl dX11_slept_1 ?_
  refine lv_iload_n hx hb dX11_slept_4 rfl (lv_at hl 1 rfl) ?_
  have hPc := hP.sub (ws' := [(h1, .inr (1, [.int 0, .int 0, v0_2, v0_3, v0_4]))]) [1] rfl
  have hDc := hD0.sub (ws' := [(h1, .inr (1, [.int 0, .int 0, v0_2, v0_3, v0_4]))]) [1] (by decide) rfl
  refine va_calli (va_runV (As := [.int p0]) (rest := []) ⟨hx, hb, hml, hown, hts⟩ (c_X1_hasMan l dC dI cI cZ s.heap.size h1 0 (.int 0) v0_2 v0_3 v0_4 p0) (cwV 1 hts gX11_slept_X1_hasMan rfl rfl rfl (by decide +kernel) ⟨Nat.le_of_ble_eq_true rfl, Nat.le_of_ble_eq_true rfl⟩) (zPreV hPc hK hDc hG (ci := 1) (q0 := 0) rfl rfl) rfl rfl hl.1 rfl (lv_room (Nat.le_of_ble_eq_true rfl)) dX11_slept_5 ⟨Nat.le_of_ble_eq_true rfl, Nat.le_of_ble_eq_true rfl⟩) hS (fun _ _ h => h.elim) (fun _ h => h.elim) (fun r1 u9 t9 H1 locs ht9 hvm hwr1 hB9 hz1 hk1 hS => ?_)
  replace hP := zKept hP hk1
  try clear hB9 hz1 hk1 hvm ht9 u9 hPc hDc
  generalize H1 = H at hP hS ⊢
  obtain rfl : r1 = 0 := hwr1.trans (zs_hasMan0 p0)
  refine lv_if_eq (tgt := 20) hx hb dX11_slept_8 (by decide) (fun _ => ?_) (fun c9 => absurd (by decide) c9)
  refine lv_ldcw (own := RX11) (v := (-1000000)) hx hb hown (hts (.constant RX11 276 (-1000000)) (by decide +kernel)) dX11_slept_20 ?_
  exact W.iret (v := (-1000000)) hx hb hr (fun t ht hW => ⟨⟨(-1000000), (), rfl, (by unfold s_X11_slept; first | rfl | simp), trivial⟩, hS.F ht⟩) hS.2.2 dX11_slept_23

def s_X11_best : Int32 := (-1)
set_option maxHeartbeats 4000000 in
set_option maxRecDepth 100000 in
theorem c_X11_best (l : Launch) (dC : Nat → ClassId) (dI : Nat → Nat → Nat) (cI cZ : ClassId) (sz : Nat) (h0 : Nat) (h1 : Nat) (d0 : Value) (d1 : Value) (d2 : Value) (d3 : Value) (d5 : Value) (d6 : Value) (d7 : Value) (d8 : Value) (d9 : Value) (d10 : Value) (d11 : Value) (d12 : Value) (d13 : Value) (d14 : Value) (d15 : Value) (d16 : Value) (d17 : Value) (d18 : Value) (d19 : Value) (v0_2 : Value) (v0_3 : Value) (v0_4 : Value) (p0 : Int32) (p1 : Int32) : Met l yX11_best wsX11_best ({ frames := 1, cells := 0, slots := 0, locals := 21 }) (va_Pc [.ref h0, .int p0, .int p1] (zPre dC dI cI cZ sz [(h0, .inr (11, [d0, d1, d2, d3, .ref h1, d5, d6, d7, d8, d9, d10, d11, d12, d13, d14, d15, d16, d17, d18, d19])), (h1, .inr (1, [.int 0, .int 0, v0_2, v0_3, v0_4]))])) (va_Qi (fun (r : Int32) (_ : Unit) => r = s_X11_best) (fun (_ : Unit) _ => True) (fun _ => False)) 0 0 (fun _ => False) := by
  refine Met.ofW (cc := cX11_best) (maxL := 6) (ret := (some .int)) (by decide) rfl ?_
  intro p e s m args below meth c s₁ B hml hv
  obtain ⟨rfl, hsz, hP, hK, hD0, hG⟩ := hv
  have hx := B.exec
  have hb := B.bytes
  have hr := B.returns
  have hts := atoms_spec (ws := wsX11_best) B.pre
  have hown : s.vm.findClass RX11 = some m.cls := findClass_of_methodNamed B.named
  have hlocks := B.notSynchronized
  have hinX11 : ∀ w ∈ wsX110, w ∈ wsX11_best := by decide +kernel
  subst hsz
  have hS : va_S (fun _ : Nat => False) s.heap s.heap [] := va_S.rf
  have hP : va_P (dC, dI) vwCl [(h0, .inr (11, [d0, d1, d2, d3, .ref h1, d5, d6, d7, d8, d9, d10, d11, d12, d13, d14, d15, d16, d17, d18, d19])), (h1, .inr (1, [.int 0, .int 0, v0_2, v0_3, v0_4]))] s.heap := hP
  have hl := lv_entry ([.ref h0, .int p0, .int p1]) (n := 6) (Nat.le_of_ble_eq_true rfl)
  rw [lg_entry_eq]
  generalize (lg_sl ([.ref h0, .int p0, .int p1]) ++ List.replicate (6 - (lg_sl ([.ref h0, .int p0, .int p1])).length) Slot.unset).toArray = ls at hl ⊢
  have hl : lv_has ls 6 [(0, .ref h0), (1, .int p0), (2, .int p1)] := hl
  refine lv_aload_n hx hb dX11_best_0 rfl (lv_at hl 0 rfl) ?_
  refine va_get (D := (dC, dI)) (ci := 11) (v := .ref h1) (C := RX11) (T := TX11) (N := 20) hx hb hts hinX11 hown hK hP 0 rfl rfl 4 (by decide) (hts (.fieldLink RX11 42 "DreamGuard" "fort" "LDreamGuard$Fort;") (by decide +kernel)) (fun _ h9 => h9) rfl dX11_best_1 ?_
  refine lv_iload_n hx hb dX11_best_4 rfl (lv_at hl 1 rfl) ?_
  have hPc := hP.sub (ws' := [(h1, .inr (1, [.int 0, .int 0, v0_2, v0_3, v0_4]))]) [1] rfl
  have hDc := hD0.sub (ws' := [(h1, .inr (1, [.int 0, .int 0, v0_2, v0_3, v0_4]))]) [1] (by decide) rfl
  refine va_calli (va_runV (As := [.int p0]) (rest := []) ⟨hx, hb, hml, hown, hts⟩ (c_X1_hasMan l dC dI cI cZ s.heap.size h1 0 (.int 0) v0_2 v0_3 v0_4 p0) (cwV 1 hts gX11_best_X1_hasMan rfl rfl rfl (by decide +kernel) ⟨Nat.le_of_ble_eq_true rfl, Nat.le_of_ble_eq_true rfl⟩) (zPreV hPc hK hDc hG (ci := 1) (q0 := 0) rfl rfl) rfl rfl hl.1 rfl (lv_room (Nat.le_of_ble_eq_true rfl)) dX11_best_5 ⟨Nat.le_of_ble_eq_true rfl, Nat.le_of_ble_eq_true rfl⟩) hS (fun _ _ h => h.elim) (fun _ h => h.elim) (fun r1 u9 t9 H1 locs ht9 hvm hwr1 hB9 hz1 hk1 hS => ?_)
  replace hP := zKept hP hk1
  try clear hB9 hz1 hk1 hvm ht9 u9 hPc hDc
  generalize H1 = H at hP hS ⊢
  obtain rfl : r1 = 0 := hwr1.trans (zs_hasMan0 p0)
  refine lv_if_eq (tgt := 20) hx hb dX11_best_8 (by decide) (fun _ => ?_) (fun c9 => absurd (by decide) c9)
  refine lv_iconst (v := (-1)) hx hb dX11_best_20 (by decide) ?_
  exact W.iret (v := (-1)) hx hb hr (fun t ht hW => ⟨⟨(-1), (), rfl, (by unfold s_X11_best; first | rfl | simp), trivial⟩, hS.F ht⟩) hS.2.2 dX11_best_21

def s_X11_seen : Int32 := (-1)
set_option maxHeartbeats 4000000 in
set_option maxRecDepth 100000 in
theorem c_X11_seen (l : Launch) (dC : Nat → ClassId) (dI : Nat → Nat → Nat) (cI cZ : ClassId) (sz : Nat) (h0 : Nat) (h1 : Nat) (d0 : Value) (d1 : Value) (d2 : Value) (d3 : Value) (d5 : Value) (d6 : Value) (d7 : Value) (d8 : Value) (d9 : Value) (d10 : Value) (d11 : Value) (d12 : Value) (d13 : Value) (d14 : Value) (d15 : Value) (d16 : Value) (d17 : Value) (d18 : Value) (d19 : Value) (v0_2 : Value) (v0_3 : Value) (v0_4 : Value) (p0 : Int32) (p1 : Int32) (p2 : Int32) : Met l yX11_seen wsX11_seen ({ frames := 1, cells := 0, slots := 0, locals := 21 }) (va_Pc [.ref h0, .int p0, .int p1, .int p2] (zPre dC dI cI cZ sz [(h0, .inr (11, [d0, d1, d2, d3, .ref h1, d5, d6, d7, d8, d9, d10, d11, d12, d13, d14, d15, d16, d17, d18, d19])), (h1, .inr (1, [.int 0, .int 0, v0_2, v0_3, v0_4]))])) (va_Qi (fun (r : Int32) (_ : Unit) => r = s_X11_seen) (fun (_ : Unit) _ => True) (fun _ => False)) 0 0 (fun _ => False) := by
  refine Met.ofW (cc := cX11_seen) (maxL := 4) (ret := (some .int)) (by decide) rfl ?_
  intro p e s m args below meth c s₁ B hml hv
  obtain ⟨rfl, hsz, hP, hK, hD0, hG⟩ := hv
  have hx := B.exec
  have hb := B.bytes
  have hr := B.returns
  have hts := atoms_spec (ws := wsX11_seen) B.pre
  have hown : s.vm.findClass RX11 = some m.cls := findClass_of_methodNamed B.named
  have hlocks := B.notSynchronized
  have hinX11 : ∀ w ∈ wsX110, w ∈ wsX11_seen := by decide +kernel
  subst hsz
  have hS : va_S (fun _ : Nat => False) s.heap s.heap [] := va_S.rf
  have hP : va_P (dC, dI) vwCl [(h0, .inr (11, [d0, d1, d2, d3, .ref h1, d5, d6, d7, d8, d9, d10, d11, d12, d13, d14, d15, d16, d17, d18, d19])), (h1, .inr (1, [.int 0, .int 0, v0_2, v0_3, v0_4]))] s.heap := hP
  have hl := lv_entry ([.ref h0, .int p0, .int p1, .int p2]) (n := 4) (Nat.le_of_ble_eq_true rfl)
  rw [lg_entry_eq]
  generalize (lg_sl ([.ref h0, .int p0, .int p1, .int p2]) ++ List.replicate (4 - (lg_sl ([.ref h0, .int p0, .int p1, .int p2])).length) Slot.unset).toArray = ls at hl ⊢
  have hl : lv_has ls 4 [(0, .ref h0), (1, .int p0), (2, .int p1), (3, .int p2)] := hl
  refine lv_aload_n hx hb dX11_seen_0 rfl (lv_at hl 0 rfl) ?_
  refine va_get (D := (dC, dI)) (ci := 11) (v := .ref h1) (C := RX11) (T := TX11) (N := 20) hx hb hts hinX11 hown hK hP 0 rfl rfl 4 (by decide) (hts (.fieldLink RX11 42 "DreamGuard" "fort" "LDreamGuard$Fort;") (by decide +kernel)) (fun _ h9 => h9) rfl dX11_seen_1 ?_
  refine lv_iload_n hx hb dX11_seen_4 rfl (lv_at hl 1 rfl) ?_
  have hPc := hP.sub (ws' := [(h1, .inr (1, [.int 0, .int 0, v0_2, v0_3, v0_4]))]) [1] rfl
  have hDc := hD0.sub (ws' := [(h1, .inr (1, [.int 0, .int 0, v0_2, v0_3, v0_4]))]) [1] (by decide) rfl
  refine va_calli (va_runV (As := [.int p0]) (rest := []) ⟨hx, hb, hml, hown, hts⟩ (c_X1_hasMan l dC dI cI cZ s.heap.size h1 0 (.int 0) v0_2 v0_3 v0_4 p0) (cwV 1 hts gX11_seen_X1_hasMan rfl rfl rfl (by decide +kernel) ⟨Nat.le_of_ble_eq_true rfl, Nat.le_of_ble_eq_true rfl⟩) (zPreV hPc hK hDc hG (ci := 1) (q0 := 0) rfl rfl) rfl rfl hl.1 rfl (lv_room (Nat.le_of_ble_eq_true rfl)) dX11_seen_5 ⟨Nat.le_of_ble_eq_true rfl, Nat.le_of_ble_eq_true rfl⟩) hS (fun _ _ h => h.elim) (fun _ h => h.elim) (fun r1 u9 t9 H1 locs ht9 hvm hwr1 hB9 hz1 hk1 hS => ?_)
  replace hP := zKept hP hk1
  try clear hB9 hz1 hk1 hvm ht9 u9 hPc hDc
  generalize H1 = H at hP hS ⊢
  obtain rfl : r1 = 0 := hwr1.trans (zs_hasMan0 p0)
  refine lv_if_eq (tgt := 21) hx hb dX11_seen_8 (by decide) (fun _ => ?_) (fun c9 => absurd (by decide) c9)
  refine lv_iconst (v := (-1)) hx hb dX11_seen_21 (by decide) ?_
  exact W.iret (v := (-1)) hx hb hr (fun t ht hW => ⟨⟨(-1), (), rfl, (by unfold s_X11_seen; first | rfl | simp), trivial⟩, hS.F ht⟩) hS.2.2 dX11_seen_22

def s_X11_shares : Int32 := (-1)
set_option maxHeartbeats 4000000 in
set_option maxRecDepth 100000 in
theorem c_X11_shares (l : Launch) (dC : Nat → ClassId) (dI : Nat → Nat → Nat) (cI cZ : ClassId) (sz : Nat) (h0 : Nat) (h1 : Nat) (d0 : Value) (d1 : Value) (d2 : Value) (d3 : Value) (d5 : Value) (d6 : Value) (d7 : Value) (d8 : Value) (d9 : Value) (d10 : Value) (d11 : Value) (d12 : Value) (d13 : Value) (d14 : Value) (d15 : Value) (d16 : Value) (d17 : Value) (d18 : Value) (d19 : Value) (v0_2 : Value) (v0_3 : Value) (v0_4 : Value) (p0 : Int32) (p1 : Int32) : Met l yX11_shares wsX11_shares ({ frames := 1, cells := 0, slots := 0, locals := 21 }) (va_Pc [.ref h0, .int p0, .int p1] (zPre dC dI cI cZ sz [(h0, .inr (11, [d0, d1, d2, d3, .ref h1, d5, d6, d7, d8, d9, d10, d11, d12, d13, d14, d15, d16, d17, d18, d19])), (h1, .inr (1, [.int 0, .int 0, v0_2, v0_3, v0_4]))])) (va_Qi (fun (r : Int32) (_ : Unit) => r = s_X11_shares) (fun (_ : Unit) _ => True) (fun _ => False)) 0 0 (fun _ => False) := by
  refine Met.ofW (cc := cX11_shares) (maxL := 4) (ret := (some .int)) (by decide) rfl ?_
  intro p e s m args below meth c s₁ B hml hv
  obtain ⟨rfl, hsz, hP, hK, hD0, hG⟩ := hv
  have hx := B.exec
  have hb := B.bytes
  have hr := B.returns
  have hts := atoms_spec (ws := wsX11_shares) B.pre
  have hown : s.vm.findClass RX11 = some m.cls := findClass_of_methodNamed B.named
  have hlocks := B.notSynchronized
  have hinX11 : ∀ w ∈ wsX110, w ∈ wsX11_shares := by decide +kernel
  subst hsz
  have hS : va_S (fun _ : Nat => False) s.heap s.heap [] := va_S.rf
  have hP : va_P (dC, dI) vwCl [(h0, .inr (11, [d0, d1, d2, d3, .ref h1, d5, d6, d7, d8, d9, d10, d11, d12, d13, d14, d15, d16, d17, d18, d19])), (h1, .inr (1, [.int 0, .int 0, v0_2, v0_3, v0_4]))] s.heap := hP
  have hl := lv_entry ([.ref h0, .int p0, .int p1]) (n := 4) (Nat.le_of_ble_eq_true rfl)
  rw [lg_entry_eq]
  generalize (lg_sl ([.ref h0, .int p0, .int p1]) ++ List.replicate (4 - (lg_sl ([.ref h0, .int p0, .int p1])).length) Slot.unset).toArray = ls at hl ⊢
  have hl : lv_has ls 4 [(0, .ref h0), (1, .int p0), (2, .int p1)] := hl
  refine lv_aload_n hx hb dX11_shares_0 rfl (lv_at hl 0 rfl) ?_
  refine va_get (D := (dC, dI)) (ci := 11) (v := .ref h1) (C := RX11) (T := TX11) (N := 20) hx hb hts hinX11 hown hK hP 0 rfl rfl 4 (by decide) (hts (.fieldLink RX11 42 "DreamGuard" "fort" "LDreamGuard$Fort;") (by decide +kernel)) (fun _ h9 => h9) rfl dX11_shares_1 ?_
  refine lv_iload_n hx hb dX11_shares_4 rfl (lv_at hl 1 rfl) ?_
  have hPc := hP.sub (ws' := [(h1, .inr (1, [.int 0, .int 0, v0_2, v0_3, v0_4]))]) [1] rfl
  have hDc := hD0.sub (ws' := [(h1, .inr (1, [.int 0, .int 0, v0_2, v0_3, v0_4]))]) [1] (by decide) rfl
  refine va_calli (va_runV (As := [.int p0]) (rest := []) ⟨hx, hb, hml, hown, hts⟩ (c_X1_hasMan l dC dI cI cZ s.heap.size h1 0 (.int 0) v0_2 v0_3 v0_4 p0) (cwV 1 hts gX11_shares_X1_hasMan rfl rfl rfl (by decide +kernel) ⟨Nat.le_of_ble_eq_true rfl, Nat.le_of_ble_eq_true rfl⟩) (zPreV hPc hK hDc hG (ci := 1) (q0 := 0) rfl rfl) rfl rfl hl.1 rfl (lv_room (Nat.le_of_ble_eq_true rfl)) dX11_shares_5 ⟨Nat.le_of_ble_eq_true rfl, Nat.le_of_ble_eq_true rfl⟩) hS (fun _ _ h => h.elim) (fun _ h => h.elim) (fun r1 u9 t9 H1 locs ht9 hvm hwr1 hB9 hz1 hk1 hS => ?_)
  replace hP := zKept hP hk1
  try clear hB9 hz1 hk1 hvm ht9 u9 hPc hDc
  generalize H1 = H at hP hS ⊢
  obtain rfl : r1 = 0 := hwr1.trans (zs_hasMan0 p0)
  refine lv_if_eq (tgt := 22) hx hb dX11_shares_8 (by decide) (fun _ => ?_) (fun c9 => absurd (by decide) c9)
  refine lv_iconst (v := (-1)) hx hb dX11_shares_22 (by decide) ?_
  exact W.iret (v := (-1)) hx hb hr (fun t ht hW => ⟨⟨(-1), (), rfl, (by unfold s_X11_shares; first | rfl | simp), trivial⟩, hS.F ht⟩) hS.2.2 dX11_shares_23

def s_X11_watcher : Int32 := (-1)
set_option maxHeartbeats 4000000 in
set_option maxRecDepth 100000 in
theorem c_X11_watcher (l : Launch) (dC : Nat → ClassId) (dI : Nat → Nat → Nat) (cI cZ : ClassId) (sz : Nat) (h0 : Nat) (h1 : Nat) (d0 : Value) (d1 : Value) (d2 : Value) (d3 : Value) (d5 : Value) (d6 : Value) (d7 : Value) (d8 : Value) (d9 : Value) (d10 : Value) (d11 : Value) (d12 : Value) (d13 : Value) (d14 : Value) (d15 : Value) (d16 : Value) (d17 : Value) (d18 : Value) (d19 : Value) (v0_2 : Value) (v0_3 : Value) (v0_4 : Value) (p0 : Int32) : Met l yX11_watcher wsX11_watcher ({ frames := 1, cells := 0, slots := 0, locals := 21 }) (va_Pc [.ref h0, .int p0] (zPre dC dI cI cZ sz [(h0, .inr (11, [d0, d1, d2, d3, .ref h1, d5, d6, d7, d8, d9, d10, d11, d12, d13, d14, d15, d16, d17, d18, d19])), (h1, .inr (1, [.int 0, .int 0, v0_2, v0_3, v0_4]))])) (va_Qi (fun (r : Int32) (_ : Unit) => r = s_X11_watcher) (fun (_ : Unit) _ => True) (fun _ => False)) 0 0 (fun _ => False) := by
  refine Met.ofW (cc := cX11_watcher) (maxL := 2) (ret := (some .int)) (by decide) rfl ?_
  intro p e s m args below meth c s₁ B hml hv
  obtain ⟨rfl, hsz, hP, hK, hD0, hG⟩ := hv
  have hx := B.exec
  have hb := B.bytes
  have hr := B.returns
  have hts := atoms_spec (ws := wsX11_watcher) B.pre
  have hown : s.vm.findClass RX11 = some m.cls := findClass_of_methodNamed B.named
  have hlocks := B.notSynchronized
  have hinX11 : ∀ w ∈ wsX110, w ∈ wsX11_watcher := by decide +kernel
  subst hsz
  have hS : va_S (fun _ : Nat => False) s.heap s.heap [] := va_S.rf
  have hP : va_P (dC, dI) vwCl [(h0, .inr (11, [d0, d1, d2, d3, .ref h1, d5, d6, d7, d8, d9, d10, d11, d12, d13, d14, d15, d16, d17, d18, d19])), (h1, .inr (1, [.int 0, .int 0, v0_2, v0_3, v0_4]))] s.heap := hP
  have hl := lv_entry ([.ref h0, .int p0]) (n := 2) (Nat.le_of_ble_eq_true rfl)
  rw [lg_entry_eq]
  generalize (lg_sl ([.ref h0, .int p0]) ++ List.replicate (2 - (lg_sl ([.ref h0, .int p0])).length) Slot.unset).toArray = ls at hl ⊢
  have hl : lv_has ls 2 [(0, .ref h0), (1, .int p0)] := hl
  refine lv_aload_n hx hb dX11_watcher_0 rfl (lv_at hl 0 rfl) ?_
  refine va_get (D := (dC, dI)) (ci := 11) (v := .ref h1) (C := RX11) (T := TX11) (N := 20) hx hb hts hinX11 hown hK hP 0 rfl rfl 4 (by decide) (hts (.fieldLink RX11 42 "DreamGuard" "fort" "LDreamGuard$Fort;") (by decide +kernel)) (fun _ h9 => h9) rfl dX11_watcher_1 ?_
  refine lv_iload_n hx hb dX11_watcher_4 rfl (lv_at hl 1 rfl) ?_
  have hPc := hP.sub (ws' := [(h1, .inr (1, [.int 0, .int 0, v0_2, v0_3, v0_4]))]) [1] rfl
  have hDc := hD0.sub (ws' := [(h1, .inr (1, [.int 0, .int 0, v0_2, v0_3, v0_4]))]) [1] (by decide) rfl
  refine va_calli (va_runV (As := [.int p0]) (rest := []) ⟨hx, hb, hml, hown, hts⟩ (c_X1_hasMan l dC dI cI cZ s.heap.size h1 0 (.int 0) v0_2 v0_3 v0_4 p0) (cwV 1 hts gX11_watcher_X1_hasMan rfl rfl rfl (by decide +kernel) ⟨Nat.le_of_ble_eq_true rfl, Nat.le_of_ble_eq_true rfl⟩) (zPreV hPc hK hDc hG (ci := 1) (q0 := 0) rfl rfl) rfl rfl hl.1 rfl (lv_room (Nat.le_of_ble_eq_true rfl)) dX11_watcher_5 ⟨Nat.le_of_ble_eq_true rfl, Nat.le_of_ble_eq_true rfl⟩) hS (fun _ _ h => h.elim) (fun _ h => h.elim) (fun r1 u9 t9 H1 locs ht9 hvm hwr1 hB9 hz1 hk1 hS => ?_)
  replace hP := zKept hP hk1
  try clear hB9 hz1 hk1 hvm ht9 u9 hPc hDc
  generalize H1 = H at hP hS ⊢
  obtain rfl : r1 = 0 := hwr1.trans (zs_hasMan0 p0)
  refine lv_if_ne (tgt := 13) hx hb dX11_watcher_8 (by decide) (fun c9 => absurd (by decide) c9) (fun _ => ?_)
  refine lv_iconst (v := (-1)) hx hb dX11_watcher_11 (by decide) ?_
  exact W.iret (v := (-1)) hx hb hr (fun t ht hW => ⟨⟨(-1), (), rfl, (by unfold s_X11_watcher; first | rfl | simp), trivial⟩, hS.F ht⟩) hS.2.2 dX11_watcher_12

def s_X11_spare : Int32 := (-1)
set_option maxHeartbeats 4000000 in
set_option maxRecDepth 100000 in
theorem c_X11_spare (l : Launch) (dC : Nat → ClassId) (dI : Nat → Nat → Nat) (cI cZ : ClassId) (sz : Nat) (h0 : Nat) (h1 : Nat) (d0 : Value) (d1 : Value) (d2 : Value) (d3 : Value) (d5 : Value) (d6 : Value) (d7 : Value) (d8 : Value) (d9 : Value) (d10 : Value) (d11 : Value) (d12 : Value) (d13 : Value) (d14 : Value) (d15 : Value) (d16 : Value) (d17 : Value) (d18 : Value) (d19 : Value) (v0_2 : Value) (v0_3 : Value) (v0_4 : Value) (p0 : Int32) : Met l yX11_spare wsX11_spare ({ frames := 1, cells := 0, slots := 0, locals := 21 }) (va_Pc [.ref h0, .int p0] (zPre dC dI cI cZ sz [(h0, .inr (11, [d0, d1, d2, d3, .ref h1, d5, d6, d7, d8, d9, d10, d11, d12, d13, d14, d15, d16, d17, d18, d19])), (h1, .inr (1, [.int 0, .int 0, v0_2, v0_3, v0_4]))])) (va_Qi (fun (r : Int32) (_ : Unit) => r = s_X11_spare) (fun (_ : Unit) _ => True) (fun _ => False)) 0 0 (fun _ => False) := by
  refine Met.ofW (cc := cX11_spare) (maxL := 2) (ret := (some .int)) (by decide) rfl ?_
  intro p e s m args below meth c s₁ B hml hv
  obtain ⟨rfl, hsz, hP, hK, hD0, hG⟩ := hv
  have hx := B.exec
  have hb := B.bytes
  have hr := B.returns
  have hts := atoms_spec (ws := wsX11_spare) B.pre
  have hown : s.vm.findClass RX11 = some m.cls := findClass_of_methodNamed B.named
  have hlocks := B.notSynchronized
  have hinX11 : ∀ w ∈ wsX110, w ∈ wsX11_spare := by decide +kernel
  subst hsz
  have hS : va_S (fun _ : Nat => False) s.heap s.heap [] := va_S.rf
  have hP : va_P (dC, dI) vwCl [(h0, .inr (11, [d0, d1, d2, d3, .ref h1, d5, d6, d7, d8, d9, d10, d11, d12, d13, d14, d15, d16, d17, d18, d19])), (h1, .inr (1, [.int 0, .int 0, v0_2, v0_3, v0_4]))] s.heap := hP
  have hl := lv_entry ([.ref h0, .int p0]) (n := 2) (Nat.le_of_ble_eq_true rfl)
  rw [lg_entry_eq]
  generalize (lg_sl ([.ref h0, .int p0]) ++ List.replicate (2 - (lg_sl ([.ref h0, .int p0])).length) Slot.unset).toArray = ls at hl ⊢
  have hl : lv_has ls 2 [(0, .ref h0), (1, .int p0)] := hl
  refine lv_aload_n hx hb dX11_spare_0 rfl (lv_at hl 0 rfl) ?_
  refine va_get (D := (dC, dI)) (ci := 11) (v := .ref h1) (C := RX11) (T := TX11) (N := 20) hx hb hts hinX11 hown hK hP 0 rfl rfl 4 (by decide) (hts (.fieldLink RX11 42 "DreamGuard" "fort" "LDreamGuard$Fort;") (by decide +kernel)) (fun _ h9 => h9) rfl dX11_spare_1 ?_
  refine lv_iload_n hx hb dX11_spare_4 rfl (lv_at hl 1 rfl) ?_
  have hPc := hP.sub (ws' := [(h1, .inr (1, [.int 0, .int 0, v0_2, v0_3, v0_4]))]) [1] rfl
  have hDc := hD0.sub (ws' := [(h1, .inr (1, [.int 0, .int 0, v0_2, v0_3, v0_4]))]) [1] (by decide) rfl
  refine va_calli (va_runV (As := [.int p0]) (rest := []) ⟨hx, hb, hml, hown, hts⟩ (c_X1_hasMan l dC dI cI cZ s.heap.size h1 0 (.int 0) v0_2 v0_3 v0_4 p0) (cwV 1 hts gX11_spare_X1_hasMan rfl rfl rfl (by decide +kernel) ⟨Nat.le_of_ble_eq_true rfl, Nat.le_of_ble_eq_true rfl⟩) (zPreV hPc hK hDc hG (ci := 1) (q0 := 0) rfl rfl) rfl rfl hl.1 rfl (lv_room (Nat.le_of_ble_eq_true rfl)) dX11_spare_5 ⟨Nat.le_of_ble_eq_true rfl, Nat.le_of_ble_eq_true rfl⟩) hS (fun _ _ h => h.elim) (fun _ h => h.elim) (fun r1 u9 t9 H1 locs ht9 hvm hwr1 hB9 hz1 hk1 hS => ?_)
  replace hP := zKept hP hk1
  try clear hB9 hz1 hk1 hvm ht9 u9 hPc hDc
  generalize H1 = H at hP hS ⊢
  obtain rfl : r1 = 0 := hwr1.trans (zs_hasMan0 p0)
  refine lv_if_eq (tgt := 31) hx hb dX11_spare_8 (by decide) (fun _ => ?_) (fun c9 => absurd (by decide) c9)
  refine lv_iconst (v := (-1)) hx hb dX11_spare_31 (by decide) ?_
  exact W.iret (v := (-1)) hx hb hr (fun t ht hW => ⟨⟨(-1), (), rfl, (by unfold s_X11_spare; first | rfl | simp), trivial⟩, hS.F ht⟩) hS.2.2 dX11_spare_32

def s_X11_awake : Int32 := (-1)
set_option maxHeartbeats 4000000 in
set_option maxRecDepth 100000 in
theorem c_X11_awake (l : Launch) (dC : Nat → ClassId) (dI : Nat → Nat → Nat) (cI cZ : ClassId) (sz : Nat) (h0 : Nat) (h1 : Nat) (d0 : Value) (d1 : Value) (d2 : Value) (d3 : Value) (d5 : Value) (d6 : Value) (d7 : Value) (d8 : Value) (d9 : Value) (d10 : Value) (d11 : Value) (d12 : Value) (d13 : Value) (d14 : Value) (d15 : Value) (d16 : Value) (d17 : Value) (d18 : Value) (d19 : Value) (v0_2 : Value) (v0_3 : Value) (v0_4 : Value) (p0 : Int32) : Met l yX11_awake wsX11_awake ({ frames := 1, cells := 0, slots := 0, locals := 21 }) (va_Pc [.ref h0, .int p0] (zPre dC dI cI cZ sz [(h0, .inr (11, [d0, d1, d2, d3, .ref h1, d5, d6, d7, d8, d9, d10, d11, d12, d13, d14, d15, d16, d17, d18, d19])), (h1, .inr (1, [.int 0, .int 0, v0_2, v0_3, v0_4]))])) (va_Qi (fun (r : Int32) (_ : Unit) => r = s_X11_awake) (fun (_ : Unit) _ => True) (fun _ => False)) 0 0 (fun _ => False) := by
  refine Met.ofW (cc := cX11_awake) (maxL := 2) (ret := (some .int)) (by decide) rfl ?_
  intro p e s m args below meth c s₁ B hml hv
  obtain ⟨rfl, hsz, hP, hK, hD0, hG⟩ := hv
  have hx := B.exec
  have hb := B.bytes
  have hr := B.returns
  have hts := atoms_spec (ws := wsX11_awake) B.pre
  have hown : s.vm.findClass RX11 = some m.cls := findClass_of_methodNamed B.named
  have hlocks := B.notSynchronized
  have hinX11 : ∀ w ∈ wsX110, w ∈ wsX11_awake := by decide +kernel
  subst hsz
  have hS : va_S (fun _ : Nat => False) s.heap s.heap [] := va_S.rf
  have hP : va_P (dC, dI) vwCl [(h0, .inr (11, [d0, d1, d2, d3, .ref h1, d5, d6, d7, d8, d9, d10, d11, d12, d13, d14, d15, d16, d17, d18, d19])), (h1, .inr (1, [.int 0, .int 0, v0_2, v0_3, v0_4]))] s.heap := hP
  have hl := lv_entry ([.ref h0, .int p0]) (n := 2) (Nat.le_of_ble_eq_true rfl)
  rw [lg_entry_eq]
  generalize (lg_sl ([.ref h0, .int p0]) ++ List.replicate (2 - (lg_sl ([.ref h0, .int p0])).length) Slot.unset).toArray = ls at hl ⊢
  have hl : lv_has ls 2 [(0, .ref h0), (1, .int p0)] := hl
  refine lv_aload_n hx hb dX11_awake_0 rfl (lv_at hl 0 rfl) ?_
  refine va_get (D := (dC, dI)) (ci := 11) (v := .ref h1) (C := RX11) (T := TX11) (N := 20) hx hb hts hinX11 hown hK hP 0 rfl rfl 4 (by decide) (hts (.fieldLink RX11 42 "DreamGuard" "fort" "LDreamGuard$Fort;") (by decide +kernel)) (fun _ h9 => h9) rfl dX11_awake_1 ?_
  refine lv_iload_n hx hb dX11_awake_4 rfl (lv_at hl 1 rfl) ?_
  have hPc := hP.sub (ws' := [(h1, .inr (1, [.int 0, .int 0, v0_2, v0_3, v0_4]))]) [1] rfl
  have hDc := hD0.sub (ws' := [(h1, .inr (1, [.int 0, .int 0, v0_2, v0_3, v0_4]))]) [1] (by decide) rfl
  refine va_calli (va_runV (As := [.int p0]) (rest := []) ⟨hx, hb, hml, hown, hts⟩ (c_X1_hasHour l dC dI cI cZ s.heap.size h1 0 (.int 0) v0_2 v0_3 v0_4 p0) (cwV 1 hts gX11_awake_X1_hasHour rfl rfl rfl (by decide +kernel) ⟨Nat.le_of_ble_eq_true rfl, Nat.le_of_ble_eq_true rfl⟩) (zPreV hPc hK hDc hG (ci := 1) (q0 := 0) rfl rfl) rfl rfl hl.1 rfl (lv_room (Nat.le_of_ble_eq_true rfl)) dX11_awake_5 ⟨Nat.le_of_ble_eq_true rfl, Nat.le_of_ble_eq_true rfl⟩) hS (fun _ _ h => h.elim) (fun _ h => h.elim) (fun r1 u9 t9 H1 locs ht9 hvm hwr1 hB9 hz1 hk1 hS => ?_)
  replace hP := zKept hP hk1
  try clear hB9 hz1 hk1 hvm ht9 u9 hPc hDc
  generalize H1 = H at hP hS ⊢
  obtain rfl : r1 = 0 := hwr1.trans (zs_hasHour0 p0)
  refine lv_if_ne (tgt := 13) hx hb dX11_awake_8 (by decide) (fun c9 => absurd (by decide) c9) (fun _ => ?_)
  refine lv_iconst (v := (-1)) hx hb dX11_awake_11 (by decide) ?_
  exact W.iret (v := (-1)) hx hb hr (fun t ht hW => ⟨⟨(-1), (), rfl, (by unfold s_X11_awake; first | rfl | simp), trivial⟩, hS.F ht⟩) hS.2.2 dX11_awake_12

def s_X11_said : Int32 := (-1)
set_option maxHeartbeats 4000000 in
set_option maxRecDepth 100000 in
theorem c_X11_said (l : Launch) (dC : Nat → ClassId) (dI : Nat → Nat → Nat) (cI cZ : ClassId) (sz : Nat) (h0 : Nat) (h1 : Nat) (d0 : Value) (d1 : Value) (d2 : Value) (d3 : Value) (d5 : Value) (d6 : Value) (d7 : Value) (d8 : Value) (d9 : Value) (d10 : Value) (d11 : Value) (d12 : Value) (d13 : Value) (d14 : Value) (d15 : Value) (d16 : Value) (d17 : Value) (d18 : Value) (d19 : Value) (v0_2 : Value) (v0_3 : Value) (v0_4 : Value) (p0 : Int32) (p1 : Int32) (p2 : Int32) : Met l yX11_said wsX11_said ({ frames := 2, cells := 0, slots := 0, locals := 43 }) (va_Pc [.ref h0, .int p0, .int p1, .int p2] (zPre dC dI cI cZ sz [(h0, .inr (11, [d0, d1, d2, d3, .ref h1, d5, d6, d7, d8, d9, d10, d11, d12, d13, d14, d15, d16, d17, d18, d19])), (h1, .inr (1, [.int 0, .int 0, v0_2, v0_3, v0_4]))])) (va_Qi (fun (r : Int32) (_ : Unit) => r = s_X11_said) (fun (_ : Unit) _ => True) (fun _ => False)) 0 0 (fun _ => False) := by
  refine Met.ofW (cc := cX11_said) (maxL := 4) (ret := (some .int)) (by decide) rfl ?_
  intro p e s m args below meth c s₁ B hml hv
  obtain ⟨rfl, hsz, hP, hK, hD0, hG⟩ := hv
  have hx := B.exec
  have hb := B.bytes
  have hr := B.returns
  have hts := atoms_spec (ws := wsX11_said) B.pre
  have hown : s.vm.findClass RX11 = some m.cls := findClass_of_methodNamed B.named
  have hlocks := B.notSynchronized
  subst hsz
  have hS : va_S (fun _ : Nat => False) s.heap s.heap [] := va_S.rf
  have hP : va_P (dC, dI) vwCl [(h0, .inr (11, [d0, d1, d2, d3, .ref h1, d5, d6, d7, d8, d9, d10, d11, d12, d13, d14, d15, d16, d17, d18, d19])), (h1, .inr (1, [.int 0, .int 0, v0_2, v0_3, v0_4]))] s.heap := hP
  have hl := lv_entry ([.ref h0, .int p0, .int p1, .int p2]) (n := 4) (Nat.le_of_ble_eq_true rfl)
  rw [lg_entry_eq]
  generalize (lg_sl ([.ref h0, .int p0, .int p1, .int p2]) ++ List.replicate (4 - (lg_sl ([.ref h0, .int p0, .int p1, .int p2])).length) Slot.unset).toArray = ls at hl ⊢
  have hl : lv_has ls 4 [(0, .ref h0), (1, .int p0), (2, .int p1), (3, .int p2)] := hl
  refine lv_aload_n hx hb dX11_said_0 rfl (lv_at hl 0 rfl) ?_
  refine lv_iload_n hx hb dX11_said_1 rfl (lv_at hl 1 rfl) ?_
  refine lv_iload_n hx hb dX11_said_2 rfl (lv_at hl 2 rfl) ?_
  have hPc := hP.sub (ws' := [(h0, .inr (11, [d0, d1, d2, d3, .ref h1, d5, d6, d7, d8, d9, d10, d11, d12, d13, d14, d15, d16, d17, d18, d19])), (h1, .inr (1, [.int 0, .int 0, v0_2, v0_3, v0_4]))]) [0, 1] rfl
  have hDc := hD0.sub (ws' := [(h0, .inr (11, [d0, d1, d2, d3, .ref h1, d5, d6, d7, d8, d9, d10, d11, d12, d13, d14, d15, d16, d17, d18, d19])), (h1, .inr (1, [.int 0, .int 0, v0_2, v0_3, v0_4]))]) [0, 1] (by decide) rfl
  refine va_calli (va_runV (As := [.int p0, .int p1]) (rest := []) ⟨hx, hb, hml, hown, hts⟩ (c_X11_areTwo l dC dI cI cZ s.heap.size h0 h1 d0 d1 d2 d3 d5 d6 d7 d8 d9 d10 d11 d12 d13 d14 d15 d16 d17 d18 d19 (.int 0) v0_2 v0_3 v0_4 p0 p1) (cwV 2 hts gX11_said_X11_areTwo rfl rfl rfl (by decide +kernel) ⟨Nat.le_of_ble_eq_true rfl, Nat.le_of_ble_eq_true rfl⟩) (zPreV hPc hK hDc hG (ci := 11) (q0 := 0) rfl rfl) rfl rfl hl.1 rfl (lv_room (Nat.le_of_ble_eq_true rfl)) dX11_said_3 ⟨Nat.le_of_ble_eq_true rfl, Nat.le_of_ble_eq_true rfl⟩) hS (fun _ _ h => h.elim) (fun _ h => h.elim) (fun r1 u9 t9 H1 locs ht9 hvm hwr1 hB9 hz1 hk1 hS => ?_)
  replace hP := zKept hP hk1
  try clear hB9 hz1 hk1 hvm ht9 u9 hPc hDc
  generalize H1 = H at hP hS ⊢
  obtain rfl : r1 = 0 := hwr1.trans rfl
  refine lv_if_ne (tgt := 11) hx hb dX11_said_6 (by decide) (fun c9 => absurd (by decide) c9) (fun _ => ?_)
  refine lv_iconst (v := (-1)) hx hb dX11_said_9 (by decide) ?_
  exact W.iret (v := (-1)) hx hb hr (fun t ht hW => ⟨⟨(-1), (), rfl, (by unfold s_X11_said; first | rfl | simp), trivial⟩, hS.F ht⟩) hS.2.2 dX11_said_10

def s_X11_game : Int32 := (-1000000)
set_option maxHeartbeats 4000000 in
set_option maxRecDepth 100000 in
theorem c_X11_game (l : Launch) (dC : Nat → ClassId) (dI : Nat → Nat → Nat) (cI cZ : ClassId) (sz : Nat) (h0 : Nat) (h1 : Nat) (d0 : Value) (d1 : Value) (d2 : Value) (d3 : Value) (d5 : Value) (d6 : Value) (d7 : Value) (d8 : Value) (d9 : Value) (d10 : Value) (d11 : Value) (d12 : Value) (d13 : Value) (d14 : Value) (d15 : Value) (d16 : Value) (d17 : Value) (d18 : Value) (d19 : Value) (v0_2 : Value) (v0_3 : Value) (v0_4 : Value) (p0 : Int32) (p1 : Int32) (p2 : Int32) (p3 : Int32) (p4 : Int32) : Met l yX11_game wsX11_game ({ frames := 2, cells := 0, slots := 0, locals := 43 }) (va_Pc [.ref h0, .int p0, .int p1, .int p2, .int p3, .int p4] (zPre dC dI cI cZ sz [(h0, .inr (11, [d0, d1, d2, d3, .ref h1, d5, d6, d7, d8, d9, d10, d11, d12, d13, d14, d15, d16, d17, d18, d19])), (h1, .inr (1, [.int 0, .int 0, v0_2, v0_3, v0_4]))])) (va_Qi (fun (r : Int32) (_ : Unit) => r = s_X11_game) (fun (_ : Unit) _ => True) (fun _ => False)) 0 0 (fun _ => False) := by
  refine Met.ofW (cc := cX11_game) (maxL := 6) (ret := (some .int)) (by decide) rfl ?_
  intro p e s m args below meth c s₁ B hml hv
  obtain ⟨rfl, hsz, hP, hK, hD0, hG⟩ := hv
  have hx := B.exec
  have hb := B.bytes
  have hr := B.returns
  have hts := atoms_spec (ws := wsX11_game) B.pre
  have hown : s.vm.findClass RX11 = some m.cls := findClass_of_methodNamed B.named
  have hlocks := B.notSynchronized
  subst hsz
  have hS : va_S (fun _ : Nat => False) s.heap s.heap [] := va_S.rf
  have hP : va_P (dC, dI) vwCl [(h0, .inr (11, [d0, d1, d2, d3, .ref h1, d5, d6, d7, d8, d9, d10, d11, d12, d13, d14, d15, d16, d17, d18, d19])), (h1, .inr (1, [.int 0, .int 0, v0_2, v0_3, v0_4]))] s.heap := hP
  have hl := lv_entry ([.ref h0, .int p0, .int p1, .int p2, .int p3, .int p4]) (n := 6) (Nat.le_of_ble_eq_true rfl)
  rw [lg_entry_eq]
  generalize (lg_sl ([.ref h0, .int p0, .int p1, .int p2, .int p3, .int p4]) ++ List.replicate (6 - (lg_sl ([.ref h0, .int p0, .int p1, .int p2, .int p3, .int p4])).length) Slot.unset).toArray = ls at hl ⊢
  have hl : lv_has ls 6 [(0, .ref h0), (1, .int p0), (2, .int p1), (3, .int p2), (4, .int p3), (5, .int p4)] := hl
  refine lv_aload_n hx hb dX11_game_0 rfl (lv_at hl 0 rfl) ?_
  refine lv_iload_n hx hb dX11_game_1 rfl (lv_at hl 1 rfl) ?_
  refine lv_iload_n hx hb dX11_game_2 rfl (lv_at hl 2 rfl) ?_
  have hPc := hP.sub (ws' := [(h0, .inr (11, [d0, d1, d2, d3, .ref h1, d5, d6, d7, d8, d9, d10, d11, d12, d13, d14, d15, d16, d17, d18, d19])), (h1, .inr (1, [.int 0, .int 0, v0_2, v0_3, v0_4]))]) [0, 1] rfl
  have hDc := hD0.sub (ws' := [(h0, .inr (11, [d0, d1, d2, d3, .ref h1, d5, d6, d7, d8, d9, d10, d11, d12, d13, d14, d15, d16, d17, d18, d19])), (h1, .inr (1, [.int 0, .int 0, v0_2, v0_3, v0_4]))]) [0, 1] (by decide) rfl
  refine va_calli (va_runV (As := [.int p0, .int p1]) (rest := []) ⟨hx, hb, hml, hown, hts⟩ (c_X11_areTwo l dC dI cI cZ s.heap.size h0 h1 d0 d1 d2 d3 d5 d6 d7 d8 d9 d10 d11 d12 d13 d14 d15 d16 d17 d18 d19 (.int 0) v0_2 v0_3 v0_4 p0 p1) (cwV 2 hts gX11_game_X11_areTwo rfl rfl rfl (by decide +kernel) ⟨Nat.le_of_ble_eq_true rfl, Nat.le_of_ble_eq_true rfl⟩) (zPreV hPc hK hDc hG (ci := 11) (q0 := 0) rfl rfl) rfl rfl hl.1 rfl (lv_room (Nat.le_of_ble_eq_true rfl)) dX11_game_3 ⟨Nat.le_of_ble_eq_true rfl, Nat.le_of_ble_eq_true rfl⟩) hS (fun _ _ h => h.elim) (fun _ h => h.elim) (fun r1 u9 t9 H1 locs ht9 hvm hwr1 hB9 hz1 hk1 hS => ?_)
  replace hP := zKept hP hk1
  try clear hB9 hz1 hk1 hvm ht9 u9 hPc hDc
  generalize H1 = H at hP hS ⊢
  obtain rfl : r1 = 0 := hwr1.trans rfl
  refine lv_if_eq (tgt := 35) hx hb dX11_game_6 (by decide) (fun _ => ?_) (fun c9 => absurd (by decide) c9)
  refine lv_ldcw (own := RX11) (v := (-1000000)) hx hb hown (hts (.constant RX11 276 (-1000000)) (by decide +kernel)) dX11_game_35 ?_
  exact W.iret (v := (-1000000)) hx hb hr (fun t ht hW => ⟨⟨(-1000000), (), rfl, (by unfold s_X11_game; first | rfl | simp), trivial⟩, hS.F ht⟩) hS.2.2 dX11_game_38

def s_X11_rests : Int32 := (-1)
set_option maxHeartbeats 4000000 in
set_option maxRecDepth 100000 in
theorem c_X11_rests (l : Launch) (dC : Nat → ClassId) (dI : Nat → Nat → Nat) (cI cZ : ClassId) (sz : Nat) (h0 : Nat) (h1 : Nat) (d0 : Value) (d1 : Value) (d2 : Value) (d3 : Value) (d5 : Value) (d6 : Value) (d7 : Value) (d8 : Value) (d9 : Value) (d10 : Value) (d11 : Value) (d12 : Value) (d13 : Value) (d14 : Value) (d15 : Value) (d16 : Value) (d17 : Value) (d18 : Value) (d19 : Value) (v0_2 : Value) (v0_3 : Value) (v0_4 : Value) (p0 : Int32) (p1 : Int32) (p2 : Int32) : Met l yX11_rests wsX11_rests ({ frames := 2, cells := 0, slots := 0, locals := 43 }) (va_Pc [.ref h0, .int p0, .int p1, .int p2] (zPre dC dI cI cZ sz [(h0, .inr (11, [d0, d1, d2, d3, .ref h1, d5, d6, d7, d8, d9, d10, d11, d12, d13, d14, d15, d16, d17, d18, d19])), (h1, .inr (1, [.int 0, .int 0, v0_2, v0_3, v0_4]))])) (va_Qi (fun (r : Int32) (_ : Unit) => r = s_X11_rests) (fun (_ : Unit) _ => True) (fun _ => False)) 0 0 (fun _ => False) := by
  refine Met.ofW (cc := cX11_rests) (maxL := 8) (ret := (some .int)) (by decide) rfl ?_
  intro p e s m args below meth c s₁ B hml hv
  obtain ⟨rfl, hsz, hP, hK, hD0, hG⟩ := hv
  have hx := B.exec
  have hb := B.bytes
  have hr := B.returns
  have hts := atoms_spec (ws := wsX11_rests) B.pre
  have hown : s.vm.findClass RX11 = some m.cls := findClass_of_methodNamed B.named
  have hlocks := B.notSynchronized
  subst hsz
  have hS : va_S (fun _ : Nat => False) s.heap s.heap [] := va_S.rf
  have hP : va_P (dC, dI) vwCl [(h0, .inr (11, [d0, d1, d2, d3, .ref h1, d5, d6, d7, d8, d9, d10, d11, d12, d13, d14, d15, d16, d17, d18, d19])), (h1, .inr (1, [.int 0, .int 0, v0_2, v0_3, v0_4]))] s.heap := hP
  have hl := lv_entry ([.ref h0, .int p0, .int p1, .int p2]) (n := 8) (Nat.le_of_ble_eq_true rfl)
  rw [lg_entry_eq]
  generalize (lg_sl ([.ref h0, .int p0, .int p1, .int p2]) ++ List.replicate (8 - (lg_sl ([.ref h0, .int p0, .int p1, .int p2])).length) Slot.unset).toArray = ls at hl ⊢
  have hl : lv_has ls 8 [(0, .ref h0), (1, .int p0), (2, .int p1), (3, .int p2)] := hl
  refine lv_aload_n hx hb dX11_rests_0 rfl (lv_at hl 0 rfl) ?_
  refine lv_iload_n hx hb dX11_rests_1 rfl (lv_at hl 1 rfl) ?_
  refine lv_iload_n hx hb dX11_rests_2 rfl (lv_at hl 2 rfl) ?_
  have hPc := hP.sub (ws' := [(h0, .inr (11, [d0, d1, d2, d3, .ref h1, d5, d6, d7, d8, d9, d10, d11, d12, d13, d14, d15, d16, d17, d18, d19])), (h1, .inr (1, [.int 0, .int 0, v0_2, v0_3, v0_4]))]) [0, 1] rfl
  have hDc := hD0.sub (ws' := [(h0, .inr (11, [d0, d1, d2, d3, .ref h1, d5, d6, d7, d8, d9, d10, d11, d12, d13, d14, d15, d16, d17, d18, d19])), (h1, .inr (1, [.int 0, .int 0, v0_2, v0_3, v0_4]))]) [0, 1] (by decide) rfl
  refine va_calli (va_runV (As := [.int p0, .int p1]) (rest := []) ⟨hx, hb, hml, hown, hts⟩ (c_X11_areTwo l dC dI cI cZ s.heap.size h0 h1 d0 d1 d2 d3 d5 d6 d7 d8 d9 d10 d11 d12 d13 d14 d15 d16 d17 d18 d19 (.int 0) v0_2 v0_3 v0_4 p0 p1) (cwV 2 hts gX11_rests_X11_areTwo rfl rfl rfl (by decide +kernel) ⟨Nat.le_of_ble_eq_true rfl, Nat.le_of_ble_eq_true rfl⟩) (zPreV hPc hK hDc hG (ci := 11) (q0 := 0) rfl rfl) rfl rfl hl.1 rfl (lv_room (Nat.le_of_ble_eq_true rfl)) dX11_rests_3 ⟨Nat.le_of_ble_eq_true rfl, Nat.le_of_ble_eq_true rfl⟩) hS (fun _ _ h => h.elim) (fun _ h => h.elim) (fun r1 u9 t9 H1 locs ht9 hvm hwr1 hB9 hz1 hk1 hS => ?_)
  replace hP := zKept hP hk1
  try clear hB9 hz1 hk1 hvm ht9 u9 hPc hDc
  generalize H1 = H at hP hS ⊢
  obtain rfl : r1 = 0 := hwr1.trans rfl
  refine lv_if_eq (tgt := 14) hx hb dX11_rests_6 (by decide) (fun _ => ?_) (fun c9 => absurd (by decide) c9)
  refine lv_iconst (v := (-1)) hx hb dX11_rests_14 (by decide) ?_
  exact W.iret (v := (-1)) hx hb hr (fun t ht hW => ⟨⟨(-1), (), rfl, (by unfold s_X11_rests; first | rfl | simp), trivial⟩, hS.F ht⟩) hS.2.2 dX11_rests_15

def s_X11_bed : Int32 := (-1)
set_option maxHeartbeats 4000000 in
set_option maxRecDepth 100000 in
theorem c_X11_bed (l : Launch) (dC : Nat → ClassId) (dI : Nat → Nat → Nat) (cI cZ : ClassId) (sz : Nat) (h0 : Nat) (h1 : Nat) (h2 : Nat) (d0 : Value) (d1 : Value) (d2 : Value) (d3 : Value) (d5 : Value) (d6 : Value) (d7 : Value) (d8 : Value) (d9 : Value) (d10 : Value) (d11 : Value) (d12 : Value) (d13 : Value) (d14 : Value) (d16 : Value) (d17 : Value) (d18 : Value) (d19 : Value) (v0_2 : Value) (v0_3 : Value) (v0_4 : Value) (p0 : Int32) (p1 : Int32) : Met l yX11_bed wsX11_bed ({ frames := 1, cells := 0, slots := 0, locals := 21 }) (va_Pc [.ref h0, .int p0, .int p1] (zPre dC dI cI cZ sz [(h0, .inr (11, [d0, d1, d2, d3, .ref h1, d5, d6, d7, d8, d9, d10, d11, d12, d13, d14, .ref h2, d16, d17, d18, d19])), (h1, .inr (1, [.int 0, .int 0, v0_2, v0_3, v0_4])), (h2, .inl (cI, 5, .inl (fun _ => 0)))])) (va_Qi (fun (r : Int32) (_ : Unit) => r = s_X11_bed) (fun (_ : Unit) _ => True) (va_A [(h0, .inr (11, [d0, d1, d2, d3, .ref h1, d5, d6, d7, d8, d9, d10, d11, d12, d13, d14, .ref h2, d16, d17, d18, d19])), (h1, .inr (1, [.int 0, .int 0, v0_2, v0_3, v0_4])), (h2, .inl (cI, 5, .inl (fun _ => 0)))] sz)) 0 0 (va_A [(h0, .inr (11, [d0, d1, d2, d3, .ref h1, d5, d6, d7, d8, d9, d10, d11, d12, d13, d14, .ref h2, d16, d17, d18, d19])), (h1, .inr (1, [.int 0, .int 0, v0_2, v0_3, v0_4])), (h2, .inl (cI, 5, .inl (fun _ => 0)))] sz) := by
  refine Met.ofW (cc := cX11_bed) (maxL := 4) (ret := (some .int)) (by decide) rfl ?_
  intro p e s m args below meth c s₁ B hml hv
  obtain ⟨rfl, hsz, hP, hK, hD0, hG⟩ := hv
  have hx := B.exec
  have hb := B.bytes
  have hr := B.returns
  have hts := atoms_spec (ws := wsX11_bed) B.pre
  have hown : s.vm.findClass RX11 = some m.cls := findClass_of_methodNamed B.named
  have hlocks := B.notSynchronized
  have hinX11 : ∀ w ∈ wsX110, w ∈ wsX11_bed := by decide +kernel
  subst hsz
  have hD := hD0.self (sz := s.heap.size)
  generalize hAe : va_A [(h0, .inr (11, [d0, d1, d2, d3, .ref h1, d5, d6, d7, d8, d9, d10, d11, d12, d13, d14, .ref h2, d16, d17, d18, d19])), (h1, .inr (1, [.int 0, .int 0, v0_2, v0_3, v0_4])), (h2, .inl (cI, 5, .inl (fun _ => 0)))] s.heap.size = A at hD ⊢
  have hA : ∀ q : Nat, s.heap.size ≤ q → A q := fun q h => by rw [← hAe]; exact Or.inr h
  have hS : va_S A s.heap s.heap [] := va_S.rf
  have hP : va_P (dC, dI) vwCl [(h0, .inr (11, [d0, d1, d2, d3, .ref h1, d5, d6, d7, d8, d9, d10, d11, d12, d13, d14, .ref h2, d16, d17, d18, d19])), (h1, .inr (1, [.int 0, .int 0, v0_2, v0_3, v0_4])), (h2, .inl (cI, 5, .inl (fun _ => 0)))] s.heap := hP
  have hl := lv_entry ([.ref h0, .int p0, .int p1]) (n := 4) (Nat.le_of_ble_eq_true rfl)
  rw [lg_entry_eq]
  generalize (lg_sl ([.ref h0, .int p0, .int p1]) ++ List.replicate (4 - (lg_sl ([.ref h0, .int p0, .int p1])).length) Slot.unset).toArray = ls at hl ⊢
  have hl : lv_has ls 4 [(0, .ref h0), (1, .int p0), (2, .int p1)] := hl
  refine lv_aload_n hx hb dX11_bed_0 rfl (lv_at hl 0 rfl) ?_
  refine va_get (D := (dC, dI)) (ci := 11) (v := .ref h1) (C := RX11) (T := TX11) (N := 20) hx hb hts hinX11 hown hK hP 0 rfl rfl 4 (by decide) (hts (.fieldLink RX11 42 "DreamGuard" "fort" "LDreamGuard$Fort;") (by decide +kernel)) (fun _ h9 => h9) rfl dX11_bed_1 ?_
  refine lv_iload_n hx hb dX11_bed_4 rfl (lv_at hl 1 rfl) ?_
  have hPc := hP.sub (ws' := [(h1, .inr (1, [.int 0, .int 0, v0_2, v0_3, v0_4]))]) [1] rfl
  have hDc := hD.sub (ws' := [(h1, .inr (1, [.int 0, .int 0, v0_2, v0_3, v0_4]))]) [1] (by decide) rfl
  refine va_calli (va_runV (As := [.int p0]) (rest := []) ⟨hx, hb, hml, hown, hts⟩ (c_X1_hasMan l dC dI cI cZ s.heap.size h1 0 (.int 0) v0_2 v0_3 v0_4 p0) (cwV 1 hts gX11_bed_X1_hasMan rfl rfl rfl (by decide +kernel) ⟨Nat.le_of_ble_eq_true rfl, Nat.le_of_ble_eq_true rfl⟩) (zPreV hPc hK hDc hG (ci := 1) (q0 := 0) rfl rfl) rfl rfl hl.1 rfl (lv_room (Nat.le_of_ble_eq_true rfl)) dX11_bed_5 ⟨Nat.le_of_ble_eq_true rfl, Nat.le_of_ble_eq_true rfl⟩) hS (fun _ _ h => h.elim) (fun _ h => h.elim) (fun r1 u9 t9 H1 locs ht9 hvm hwr1 hB9 hz1 hk1 hS => ?_)
  replace hP := zKept hP hk1
  try clear hB9 hz1 hk1 hvm ht9 u9 hPc hDc
  generalize H1 = H at hP hS ⊢
  obtain rfl : r1 = 0 := hwr1.trans (zs_hasMan0 p0)
  refine lv_if_ne (tgt := 17) hx hb dX11_bed_8 (by decide) (fun c9 => absurd (by decide) c9) (fun _ => ?_)
  refine lv_aload_n hx hb dX11_bed_11 rfl (lv_at hl 0 rfl) ?_
  refine lv_iconst (v := 0) hx hb dX11_bed_12 (by decide) ?_
  have hPc := hP.sub (ws' := [(h0, .inr (11, [d0, d1, d2, d3, .ref h1, d5, d6, d7, d8, d9, d10, d11, d12, d13, d14, .ref h2, d16, d17, d18, d19])), (h2, .inl (cI, 5, .inl (fun _ => 0)))]) [0, 2] rfl
  have hDc := hD.sub (ws' := [(h0, .inr (11, [d0, d1, d2, d3, .ref h1, d5, d6, d7, d8, d9, d10, d11, d12, d13, d14, .ref h2, d16, d17, d18, d19])), (h2, .inl (cI, 5, .inl (fun _ => 0)))]) [0, 2] (by decide) rfl
  have hFc := va_free (wc := [(h0, .inr (11, [d0, d1, d2, d3, .ref h1, d5, d6, d7, d8, d9, d10, d11, d12, d13, d14, .ref h2, d16, d17, d18, d19])), (h2, .inl (cI, 5, .inl (fun _ => 0)))]) hD hS hA [0, 2] rfl
  refine va_calli (va_runV (As := [.int 0]) (rest := []) ⟨hx, hb, hml, hown, hts⟩ (c_X11_refuse l dC dI cI cZ H.size h0 h2 d0 d1 d2 d3 (.ref h1) d5 d6 d7 d8 d9 d10 d11 d12 d13 d14 d16 d17 d18 d19) (cwV 1 hts gX11_bed_X11_refuse rfl rfl rfl (by decide +kernel) ⟨Nat.le_of_ble_eq_true rfl, Nat.le_of_ble_eq_true rfl⟩) (zPreV hPc hK hDc hG (ci := 11) (q0 := 0) rfl rfl) rfl rfl hl.1 rfl (lv_room (Nat.le_of_ble_eq_true rfl)) dX11_bed_13 ⟨Nat.le_of_ble_eq_true rfl, Nat.le_of_ble_eq_true rfl⟩) hS (fun q _ h => hFc q h) hFc (fun r2 u9 t9 H1 locs ht9 hvm hwr2 hB9 hz1 hk1 hS => ?_)
  have hP1 : va_P (dC, dI) vwCl [] H1 := zNoP
  have hD1 : va_D (va_A [(h0, .inr (11, [d0, d1, d2, d3, .ref h1, d5, d6, d7, d8, d9, d10, d11, d12, d13, d14, .ref h2, d16, d17, d18, d19])), (h2, .inl (cI, 5, .inl (fun _ => 0)))] H.size) [] := zNoD
  obtain ⟨hP, hD⟩ := va_join (wr := [(h1, .inr (1, [.int 0, .int 0, v0_2, v0_3, v0_4]))]) (w1 := []) hP hD [0, 2] [1] rfl rfl (by decide) (by decide) hk1 hFc hP1 hD1
  try clear hz1 hk1 hvm ht9 u9 hPc hDc hFc hP1 hD1 hB9
  generalize H1 = H at hP hS ⊢
  have hP : va_P (dC, dI) vwCl [(h1, .inr (1, [.int 0, .int 0, v0_2, v0_3, v0_4]))] H := hP
  have hD : va_D A [(h1, .inr (1, [.int 0, .int 0, v0_2, v0_3, v0_4]))] := hD
  obtain rfl : r2 = (-1) := hwr2.trans rfl
  exact W.iret (v := (-1)) hx hb hr (fun t ht hW => ⟨⟨(-1), (), rfl, (by unfold s_X11_bed; first | rfl | simp), trivial⟩, hS.F ht⟩) hS.2.2 dX11_bed_16

def s_X11_train : Int32 := (-1)
set_option maxHeartbeats 4000000 in
set_option maxRecDepth 100000 in
theorem c_X11_train (l : Launch) (dC : Nat → ClassId) (dI : Nat → Nat → Nat) (cI cZ : ClassId) (sz : Nat) (h0 : Nat) (h1 : Nat) (h2 : Nat) (d0 : Value) (d1 : Value) (d2 : Value) (d3 : Value) (d5 : Value) (d6 : Value) (d7 : Value) (d8 : Value) (d9 : Value) (d10 : Value) (d11 : Value) (d12 : Value) (d13 : Value) (d14 : Value) (d16 : Value) (d17 : Value) (d18 : Value) (d19 : Value) (v0_2 : Value) (v0_3 : Value) (v0_4 : Value) (p0 : Int32) : Met l yX11_train wsX11_train ({ frames := 1, cells := 0, slots := 0, locals := 21 }) (va_Pc [.ref h0, .int p0] (zPre dC dI cI cZ sz [(h0, .inr (11, [d0, d1, d2, d3, .ref h1, d5, d6, d7, d8, d9, d10, d11, d12, d13, d14, .ref h2, d16, d17, d18, d19])), (h1, .inr (1, [.int 0, .int 0, v0_2, v0_3, v0_4])), (h2, .inl (cI, 5, .inl (fun _ => 0)))])) (va_Qi (fun (r : Int32) (_ : Unit) => r = s_X11_train) (fun (_ : Unit) _ => True) (va_A [(h0, .inr (11, [d0, d1, d2, d3, .ref h1, d5, d6, d7, d8, d9, d10, d11, d12, d13, d14, .ref h2, d16, d17, d18, d19])), (h1, .inr (1, [.int 0, .int 0, v0_2, v0_3, v0_4])), (h2, .inl (cI, 5, .inl (fun _ => 0)))] sz)) 0 0 (va_A [(h0, .inr (11, [d0, d1, d2, d3, .ref h1, d5, d6, d7, d8, d9, d10, d11, d12, d13, d14, .ref h2, d16, d17, d18, d19])), (h1, .inr (1, [.int 0, .int 0, v0_2, v0_3, v0_4])), (h2, .inl (cI, 5, .inl (fun _ => 0)))] sz) := by
  refine Met.ofW (cc := cX11_train) (maxL := 2) (ret := (some .int)) (by decide) rfl ?_
  intro p e s m args below meth c s₁ B hml hv
  obtain ⟨rfl, hsz, hP, hK, hD0, hG⟩ := hv
  have hx := B.exec
  have hb := B.bytes
  have hr := B.returns
  have hts := atoms_spec (ws := wsX11_train) B.pre
  have hown : s.vm.findClass RX11 = some m.cls := findClass_of_methodNamed B.named
  have hlocks := B.notSynchronized
  have hinX11 : ∀ w ∈ wsX110, w ∈ wsX11_train := by decide +kernel
  subst hsz
  have hD := hD0.self (sz := s.heap.size)
  generalize hAe : va_A [(h0, .inr (11, [d0, d1, d2, d3, .ref h1, d5, d6, d7, d8, d9, d10, d11, d12, d13, d14, .ref h2, d16, d17, d18, d19])), (h1, .inr (1, [.int 0, .int 0, v0_2, v0_3, v0_4])), (h2, .inl (cI, 5, .inl (fun _ => 0)))] s.heap.size = A at hD ⊢
  have hA : ∀ q : Nat, s.heap.size ≤ q → A q := fun q h => by rw [← hAe]; exact Or.inr h
  have hS : va_S A s.heap s.heap [] := va_S.rf
  have hP : va_P (dC, dI) vwCl [(h0, .inr (11, [d0, d1, d2, d3, .ref h1, d5, d6, d7, d8, d9, d10, d11, d12, d13, d14, .ref h2, d16, d17, d18, d19])), (h1, .inr (1, [.int 0, .int 0, v0_2, v0_3, v0_4])), (h2, .inl (cI, 5, .inl (fun _ => 0)))] s.heap := hP
  have hl := lv_entry ([.ref h0, .int p0]) (n := 2) (Nat.le_of_ble_eq_true rfl)
  rw [lg_entry_eq]
  generalize (lg_sl ([.ref h0, .int p0]) ++ List.replicate (2 - (lg_sl ([.ref h0, .int p0])).length) Slot.unset).toArray = ls at hl ⊢
  have hl : lv_has ls 2 [(0, .ref h0), (1, .int p0)] := hl
  refine lv_aload_n hx hb dX11_train_0 rfl (lv_at hl 0 rfl) ?_
  refine va_get (D := (dC, dI)) (ci := 11) (v := .ref h1) (C := RX11) (T := TX11) (N := 20) hx hb hts hinX11 hown hK hP 0 rfl rfl 4 (by decide) (hts (.fieldLink RX11 42 "DreamGuard" "fort" "LDreamGuard$Fort;") (by decide +kernel)) (fun _ h9 => h9) rfl dX11_train_1 ?_
  refine lv_iload_n hx hb dX11_train_4 rfl (lv_at hl 1 rfl) ?_
  have hPc := hP.sub (ws' := [(h1, .inr (1, [.int 0, .int 0, v0_2, v0_3, v0_4]))]) [1] rfl
  have hDc := hD.sub (ws' := [(h1, .inr (1, [.int 0, .int 0, v0_2, v0_3, v0_4]))]) [1] (by decide) rfl
  refine va_calli (va_runV (As := [.int p0]) (rest := []) ⟨hx, hb, hml, hown, hts⟩ (c_X1_hasMan l dC dI cI cZ s.heap.size h1 0 (.int 0) v0_2 v0_3 v0_4 p0) (cwV 1 hts gX11_train_X1_hasMan rfl rfl rfl (by decide +kernel) ⟨Nat.le_of_ble_eq_true rfl, Nat.le_of_ble_eq_true rfl⟩) (zPreV hPc hK hDc hG (ci := 1) (q0 := 0) rfl rfl) rfl rfl hl.1 rfl (lv_room (Nat.le_of_ble_eq_true rfl)) dX11_train_5 ⟨Nat.le_of_ble_eq_true rfl, Nat.le_of_ble_eq_true rfl⟩) hS (fun _ _ h => h.elim) (fun _ h => h.elim) (fun r1 u9 t9 H1 locs ht9 hvm hwr1 hB9 hz1 hk1 hS => ?_)
  replace hP := zKept hP hk1
  try clear hB9 hz1 hk1 hvm ht9 u9 hPc hDc
  generalize H1 = H at hP hS ⊢
  obtain rfl : r1 = 0 := hwr1.trans (zs_hasMan0 p0)
  refine lv_if_ne (tgt := 17) hx hb dX11_train_8 (by decide) (fun c9 => absurd (by decide) c9) (fun _ => ?_)
  refine lv_aload_n hx hb dX11_train_11 rfl (lv_at hl 0 rfl) ?_
  refine lv_iconst (v := 0) hx hb dX11_train_12 (by decide) ?_
  have hPc := hP.sub (ws' := [(h0, .inr (11, [d0, d1, d2, d3, .ref h1, d5, d6, d7, d8, d9, d10, d11, d12, d13, d14, .ref h2, d16, d17, d18, d19])), (h2, .inl (cI, 5, .inl (fun _ => 0)))]) [0, 2] rfl
  have hDc := hD.sub (ws' := [(h0, .inr (11, [d0, d1, d2, d3, .ref h1, d5, d6, d7, d8, d9, d10, d11, d12, d13, d14, .ref h2, d16, d17, d18, d19])), (h2, .inl (cI, 5, .inl (fun _ => 0)))]) [0, 2] (by decide) rfl
  have hFc := va_free (wc := [(h0, .inr (11, [d0, d1, d2, d3, .ref h1, d5, d6, d7, d8, d9, d10, d11, d12, d13, d14, .ref h2, d16, d17, d18, d19])), (h2, .inl (cI, 5, .inl (fun _ => 0)))]) hD hS hA [0, 2] rfl
  refine va_calli (va_runV (As := [.int 0]) (rest := []) ⟨hx, hb, hml, hown, hts⟩ (c_X11_refuse l dC dI cI cZ H.size h0 h2 d0 d1 d2 d3 (.ref h1) d5 d6 d7 d8 d9 d10 d11 d12 d13 d14 d16 d17 d18 d19) (cwV 1 hts gX11_train_X11_refuse rfl rfl rfl (by decide +kernel) ⟨Nat.le_of_ble_eq_true rfl, Nat.le_of_ble_eq_true rfl⟩) (zPreV hPc hK hDc hG (ci := 11) (q0 := 0) rfl rfl) rfl rfl hl.1 rfl (lv_room (Nat.le_of_ble_eq_true rfl)) dX11_train_13 ⟨Nat.le_of_ble_eq_true rfl, Nat.le_of_ble_eq_true rfl⟩) hS (fun q _ h => hFc q h) hFc (fun r2 u9 t9 H1 locs ht9 hvm hwr2 hB9 hz1 hk1 hS => ?_)
  have hP1 : va_P (dC, dI) vwCl [] H1 := zNoP
  have hD1 : va_D (va_A [(h0, .inr (11, [d0, d1, d2, d3, .ref h1, d5, d6, d7, d8, d9, d10, d11, d12, d13, d14, .ref h2, d16, d17, d18, d19])), (h2, .inl (cI, 5, .inl (fun _ => 0)))] H.size) [] := zNoD
  obtain ⟨hP, hD⟩ := va_join (wr := [(h1, .inr (1, [.int 0, .int 0, v0_2, v0_3, v0_4]))]) (w1 := []) hP hD [0, 2] [1] rfl rfl (by decide) (by decide) hk1 hFc hP1 hD1
  try clear hz1 hk1 hvm ht9 u9 hPc hDc hFc hP1 hD1 hB9
  generalize H1 = H at hP hS ⊢
  have hP : va_P (dC, dI) vwCl [(h1, .inr (1, [.int 0, .int 0, v0_2, v0_3, v0_4]))] H := hP
  have hD : va_D A [(h1, .inr (1, [.int 0, .int 0, v0_2, v0_3, v0_4]))] := hD
  obtain rfl : r2 = (-1) := hwr2.trans rfl
  exact W.iret (v := (-1)) hx hb hr (fun t ht hW => ⟨⟨(-1), (), rfl, (by unfold s_X11_train; first | rfl | simp), trivial⟩, hS.F ht⟩) hS.2.2 dX11_train_16

def s_X11_dull : Int32 := (-1)
set_option maxHeartbeats 4000000 in
set_option maxRecDepth 100000 in
theorem c_X11_dull (l : Launch) (dC : Nat → ClassId) (dI : Nat → Nat → Nat) (cI cZ : ClassId) (sz : Nat) (h0 : Nat) (h1 : Nat) (h2 : Nat) (d0 : Value) (d1 : Value) (d2 : Value) (d3 : Value) (d5 : Value) (d6 : Value) (d7 : Value) (d8 : Value) (d9 : Value) (d10 : Value) (d11 : Value) (d12 : Value) (d13 : Value) (d14 : Value) (d16 : Value) (d17 : Value) (d18 : Value) (d19 : Value) (v0_2 : Value) (v0_3 : Value) (v0_4 : Value) (p0 : Int32) : Met l yX11_dull wsX11_dull ({ frames := 1, cells := 0, slots := 0, locals := 21 }) (va_Pc [.ref h0, .int p0] (zPre dC dI cI cZ sz [(h0, .inr (11, [d0, d1, d2, d3, .ref h1, d5, d6, d7, d8, d9, d10, d11, d12, d13, d14, .ref h2, d16, d17, d18, d19])), (h1, .inr (1, [.int 0, .int 0, v0_2, v0_3, v0_4])), (h2, .inl (cI, 5, .inl (fun _ => 0)))])) (va_Qi (fun (r : Int32) (_ : Unit) => r = s_X11_dull) (fun (_ : Unit) _ => True) (va_A [(h0, .inr (11, [d0, d1, d2, d3, .ref h1, d5, d6, d7, d8, d9, d10, d11, d12, d13, d14, .ref h2, d16, d17, d18, d19])), (h1, .inr (1, [.int 0, .int 0, v0_2, v0_3, v0_4])), (h2, .inl (cI, 5, .inl (fun _ => 0)))] sz)) 0 0 (va_A [(h0, .inr (11, [d0, d1, d2, d3, .ref h1, d5, d6, d7, d8, d9, d10, d11, d12, d13, d14, .ref h2, d16, d17, d18, d19])), (h1, .inr (1, [.int 0, .int 0, v0_2, v0_3, v0_4])), (h2, .inl (cI, 5, .inl (fun _ => 0)))] sz) := by
  refine Met.ofW (cc := cX11_dull) (maxL := 2) (ret := (some .int)) (by decide) rfl ?_
  intro p e s m args below meth c s₁ B hml hv
  obtain ⟨rfl, hsz, hP, hK, hD0, hG⟩ := hv
  have hx := B.exec
  have hb := B.bytes
  have hr := B.returns
  have hts := atoms_spec (ws := wsX11_dull) B.pre
  have hown : s.vm.findClass RX11 = some m.cls := findClass_of_methodNamed B.named
  have hlocks := B.notSynchronized
  have hinX11 : ∀ w ∈ wsX110, w ∈ wsX11_dull := by decide +kernel
  subst hsz
  have hD := hD0.self (sz := s.heap.size)
  generalize hAe : va_A [(h0, .inr (11, [d0, d1, d2, d3, .ref h1, d5, d6, d7, d8, d9, d10, d11, d12, d13, d14, .ref h2, d16, d17, d18, d19])), (h1, .inr (1, [.int 0, .int 0, v0_2, v0_3, v0_4])), (h2, .inl (cI, 5, .inl (fun _ => 0)))] s.heap.size = A at hD ⊢
  have hA : ∀ q : Nat, s.heap.size ≤ q → A q := fun q h => by rw [← hAe]; exact Or.inr h
  have hS : va_S A s.heap s.heap [] := va_S.rf
  have hP : va_P (dC, dI) vwCl [(h0, .inr (11, [d0, d1, d2, d3, .ref h1, d5, d6, d7, d8, d9, d10, d11, d12, d13, d14, .ref h2, d16, d17, d18, d19])), (h1, .inr (1, [.int 0, .int 0, v0_2, v0_3, v0_4])), (h2, .inl (cI, 5, .inl (fun _ => 0)))] s.heap := hP
  have hl := lv_entry ([.ref h0, .int p0]) (n := 2) (Nat.le_of_ble_eq_true rfl)
  rw [lg_entry_eq]
  generalize (lg_sl ([.ref h0, .int p0]) ++ List.replicate (2 - (lg_sl ([.ref h0, .int p0])).length) Slot.unset).toArray = ls at hl ⊢
  have hl : lv_has ls 2 [(0, .ref h0), (1, .int p0)] := hl
  refine lv_aload_n hx hb dX11_dull_0 rfl (lv_at hl 0 rfl) ?_
  refine va_get (D := (dC, dI)) (ci := 11) (v := .ref h1) (C := RX11) (T := TX11) (N := 20) hx hb hts hinX11 hown hK hP 0 rfl rfl 4 (by decide) (hts (.fieldLink RX11 42 "DreamGuard" "fort" "LDreamGuard$Fort;") (by decide +kernel)) (fun _ h9 => h9) rfl dX11_dull_1 ?_
  refine lv_iload_n hx hb dX11_dull_4 rfl (lv_at hl 1 rfl) ?_
  have hPc := hP.sub (ws' := [(h1, .inr (1, [.int 0, .int 0, v0_2, v0_3, v0_4]))]) [1] rfl
  have hDc := hD.sub (ws' := [(h1, .inr (1, [.int 0, .int 0, v0_2, v0_3, v0_4]))]) [1] (by decide) rfl
  refine va_calli (va_runV (As := [.int p0]) (rest := []) ⟨hx, hb, hml, hown, hts⟩ (c_X1_hasMan l dC dI cI cZ s.heap.size h1 0 (.int 0) v0_2 v0_3 v0_4 p0) (cwV 1 hts gX11_dull_X1_hasMan rfl rfl rfl (by decide +kernel) ⟨Nat.le_of_ble_eq_true rfl, Nat.le_of_ble_eq_true rfl⟩) (zPreV hPc hK hDc hG (ci := 1) (q0 := 0) rfl rfl) rfl rfl hl.1 rfl (lv_room (Nat.le_of_ble_eq_true rfl)) dX11_dull_5 ⟨Nat.le_of_ble_eq_true rfl, Nat.le_of_ble_eq_true rfl⟩) hS (fun _ _ h => h.elim) (fun _ h => h.elim) (fun r1 u9 t9 H1 locs ht9 hvm hwr1 hB9 hz1 hk1 hS => ?_)
  replace hP := zKept hP hk1
  try clear hB9 hz1 hk1 hvm ht9 u9 hPc hDc
  generalize H1 = H at hP hS ⊢
  obtain rfl : r1 = 0 := hwr1.trans (zs_hasMan0 p0)
  refine lv_if_ne (tgt := 17) hx hb dX11_dull_8 (by decide) (fun c9 => absurd (by decide) c9) (fun _ => ?_)
  refine lv_aload_n hx hb dX11_dull_11 rfl (lv_at hl 0 rfl) ?_
  refine lv_iconst (v := 0) hx hb dX11_dull_12 (by decide) ?_
  have hPc := hP.sub (ws' := [(h0, .inr (11, [d0, d1, d2, d3, .ref h1, d5, d6, d7, d8, d9, d10, d11, d12, d13, d14, .ref h2, d16, d17, d18, d19])), (h2, .inl (cI, 5, .inl (fun _ => 0)))]) [0, 2] rfl
  have hDc := hD.sub (ws' := [(h0, .inr (11, [d0, d1, d2, d3, .ref h1, d5, d6, d7, d8, d9, d10, d11, d12, d13, d14, .ref h2, d16, d17, d18, d19])), (h2, .inl (cI, 5, .inl (fun _ => 0)))]) [0, 2] (by decide) rfl
  have hFc := va_free (wc := [(h0, .inr (11, [d0, d1, d2, d3, .ref h1, d5, d6, d7, d8, d9, d10, d11, d12, d13, d14, .ref h2, d16, d17, d18, d19])), (h2, .inl (cI, 5, .inl (fun _ => 0)))]) hD hS hA [0, 2] rfl
  refine va_calli (va_runV (As := [.int 0]) (rest := []) ⟨hx, hb, hml, hown, hts⟩ (c_X11_refuse l dC dI cI cZ H.size h0 h2 d0 d1 d2 d3 (.ref h1) d5 d6 d7 d8 d9 d10 d11 d12 d13 d14 d16 d17 d18 d19) (cwV 1 hts gX11_dull_X11_refuse rfl rfl rfl (by decide +kernel) ⟨Nat.le_of_ble_eq_true rfl, Nat.le_of_ble_eq_true rfl⟩) (zPreV hPc hK hDc hG (ci := 11) (q0 := 0) rfl rfl) rfl rfl hl.1 rfl (lv_room (Nat.le_of_ble_eq_true rfl)) dX11_dull_13 ⟨Nat.le_of_ble_eq_true rfl, Nat.le_of_ble_eq_true rfl⟩) hS (fun q _ h => hFc q h) hFc (fun r2 u9 t9 H1 locs ht9 hvm hwr2 hB9 hz1 hk1 hS => ?_)
  have hP1 : va_P (dC, dI) vwCl [] H1 := zNoP
  have hD1 : va_D (va_A [(h0, .inr (11, [d0, d1, d2, d3, .ref h1, d5, d6, d7, d8, d9, d10, d11, d12, d13, d14, .ref h2, d16, d17, d18, d19])), (h2, .inl (cI, 5, .inl (fun _ => 0)))] H.size) [] := zNoD
  obtain ⟨hP, hD⟩ := va_join (wr := [(h1, .inr (1, [.int 0, .int 0, v0_2, v0_3, v0_4]))]) (w1 := []) hP hD [0, 2] [1] rfl rfl (by decide) (by decide) hk1 hFc hP1 hD1
  try clear hz1 hk1 hvm ht9 u9 hPc hDc hFc hP1 hD1 hB9
  generalize H1 = H at hP hS ⊢
  have hP : va_P (dC, dI) vwCl [(h1, .inr (1, [.int 0, .int 0, v0_2, v0_3, v0_4]))] H := hP
  have hD : va_D A [(h1, .inr (1, [.int 0, .int 0, v0_2, v0_3, v0_4]))] := hD
  obtain rfl : r2 = (-1) := hwr2.trans rfl
  exact W.iret (v := (-1)) hx hb hr (fun t ht hW => ⟨⟨(-1), (), rfl, (by unfold s_X11_dull; first | rfl | simp), trivial⟩, hS.F ht⟩) hS.2.2 dX11_dull_16

def s_X11_swap : Int32 := (-1)
set_option maxHeartbeats 4000000 in
set_option maxRecDepth 100000 in
theorem c_X11_swap (l : Launch) (dC : Nat → ClassId) (dI : Nat → Nat → Nat) (cI cZ : ClassId) (sz : Nat) (h0 : Nat) (h1 : Nat) (h2 : Nat) (d0 : Value) (d1 : Value) (d2 : Value) (d3 : Value) (d5 : Value) (d6 : Value) (d7 : Value) (d8 : Value) (d9 : Value) (d10 : Value) (d11 : Value) (d12 : Value) (d13 : Value) (d14 : Value) (d16 : Value) (d17 : Value) (d18 : Value) (d19 : Value) (v0_2 : Value) (v0_3 : Value) (v0_4 : Value) (p0 : Int32) (p1 : Int32) : Met l yX11_swap wsX11_swap ({ frames := 1, cells := 0, slots := 0, locals := 21 }) (va_Pc [.ref h0, .int p0, .int p1] (zPre dC dI cI cZ sz [(h0, .inr (11, [d0, d1, d2, d3, .ref h1, d5, d6, d7, d8, d9, d10, d11, d12, d13, d14, .ref h2, d16, d17, d18, d19])), (h1, .inr (1, [.int 0, .int 0, v0_2, v0_3, v0_4])), (h2, .inl (cI, 5, .inl (fun _ => 0)))])) (va_Qi (fun (r : Int32) (_ : Unit) => r = s_X11_swap) (fun (_ : Unit) _ => True) (va_A [(h0, .inr (11, [d0, d1, d2, d3, .ref h1, d5, d6, d7, d8, d9, d10, d11, d12, d13, d14, .ref h2, d16, d17, d18, d19])), (h1, .inr (1, [.int 0, .int 0, v0_2, v0_3, v0_4])), (h2, .inl (cI, 5, .inl (fun _ => 0)))] sz)) 0 0 (va_A [(h0, .inr (11, [d0, d1, d2, d3, .ref h1, d5, d6, d7, d8, d9, d10, d11, d12, d13, d14, .ref h2, d16, d17, d18, d19])), (h1, .inr (1, [.int 0, .int 0, v0_2, v0_3, v0_4])), (h2, .inl (cI, 5, .inl (fun _ => 0)))] sz) := by
  refine Met.ofW (cc := cX11_swap) (maxL := 3) (ret := (some .int)) (by decide) rfl ?_
  intro p e s m args below meth c s₁ B hml hv
  obtain ⟨rfl, hsz, hP, hK, hD0, hG⟩ := hv
  have hx := B.exec
  have hb := B.bytes
  have hr := B.returns
  have hts := atoms_spec (ws := wsX11_swap) B.pre
  have hown : s.vm.findClass RX11 = some m.cls := findClass_of_methodNamed B.named
  have hlocks := B.notSynchronized
  have hinX11 : ∀ w ∈ wsX110, w ∈ wsX11_swap := by decide +kernel
  subst hsz
  have hD := hD0.self (sz := s.heap.size)
  generalize hAe : va_A [(h0, .inr (11, [d0, d1, d2, d3, .ref h1, d5, d6, d7, d8, d9, d10, d11, d12, d13, d14, .ref h2, d16, d17, d18, d19])), (h1, .inr (1, [.int 0, .int 0, v0_2, v0_3, v0_4])), (h2, .inl (cI, 5, .inl (fun _ => 0)))] s.heap.size = A at hD ⊢
  have hA : ∀ q : Nat, s.heap.size ≤ q → A q := fun q h => by rw [← hAe]; exact Or.inr h
  have hS : va_S A s.heap s.heap [] := va_S.rf
  have hP : va_P (dC, dI) vwCl [(h0, .inr (11, [d0, d1, d2, d3, .ref h1, d5, d6, d7, d8, d9, d10, d11, d12, d13, d14, .ref h2, d16, d17, d18, d19])), (h1, .inr (1, [.int 0, .int 0, v0_2, v0_3, v0_4])), (h2, .inl (cI, 5, .inl (fun _ => 0)))] s.heap := hP
  have hl := lv_entry ([.ref h0, .int p0, .int p1]) (n := 3) (Nat.le_of_ble_eq_true rfl)
  rw [lg_entry_eq]
  generalize (lg_sl ([.ref h0, .int p0, .int p1]) ++ List.replicate (3 - (lg_sl ([.ref h0, .int p0, .int p1])).length) Slot.unset).toArray = ls at hl ⊢
  have hl : lv_has ls 3 [(0, .ref h0), (1, .int p0), (2, .int p1)] := hl
  refine lv_aload_n hx hb dX11_swap_0 rfl (lv_at hl 0 rfl) ?_
  refine va_get (D := (dC, dI)) (ci := 11) (v := .ref h1) (C := RX11) (T := TX11) (N := 20) hx hb hts hinX11 hown hK hP 0 rfl rfl 4 (by decide) (hts (.fieldLink RX11 42 "DreamGuard" "fort" "LDreamGuard$Fort;") (by decide +kernel)) (fun _ h9 => h9) rfl dX11_swap_1 ?_
  refine lv_iload_n hx hb dX11_swap_4 rfl (lv_at hl 1 rfl) ?_
  have hPc := hP.sub (ws' := [(h1, .inr (1, [.int 0, .int 0, v0_2, v0_3, v0_4]))]) [1] rfl
  have hDc := hD.sub (ws' := [(h1, .inr (1, [.int 0, .int 0, v0_2, v0_3, v0_4]))]) [1] (by decide) rfl
  refine va_calli (va_runV (As := [.int p0]) (rest := []) ⟨hx, hb, hml, hown, hts⟩ (c_X1_hasMan l dC dI cI cZ s.heap.size h1 0 (.int 0) v0_2 v0_3 v0_4 p0) (cwV 1 hts gX11_swap_X1_hasMan rfl rfl rfl (by decide +kernel) ⟨Nat.le_of_ble_eq_true rfl, Nat.le_of_ble_eq_true rfl⟩) (zPreV hPc hK hDc hG (ci := 1) (q0 := 0) rfl rfl) rfl rfl hl.1 rfl (lv_room (Nat.le_of_ble_eq_true rfl)) dX11_swap_5 ⟨Nat.le_of_ble_eq_true rfl, Nat.le_of_ble_eq_true rfl⟩) hS (fun _ _ h => h.elim) (fun _ h => h.elim) (fun r1 u9 t9 H1 locs ht9 hvm hwr1 hB9 hz1 hk1 hS => ?_)
  replace hP := zKept hP hk1
  try clear hB9 hz1 hk1 hvm ht9 u9 hPc hDc
  generalize H1 = H at hP hS ⊢
  obtain rfl : r1 = 0 := hwr1.trans (zs_hasMan0 p0)
  refine lv_if_eq (tgt := 22) hx hb dX11_swap_8 (by decide) (fun _ => ?_) (fun c9 => absurd (by decide) c9)
  refine lv_aload_n hx hb dX11_swap_22 rfl (lv_at hl 0 rfl) ?_
  refine lv_iconst (v := 0) hx hb dX11_swap_23 (by decide) ?_
  have hPc := hP.sub (ws' := [(h0, .inr (11, [d0, d1, d2, d3, .ref h1, d5, d6, d7, d8, d9, d10, d11, d12, d13, d14, .ref h2, d16, d17, d18, d19])), (h2, .inl (cI, 5, .inl (fun _ => 0)))]) [0, 2] rfl
  have hDc := hD.sub (ws' := [(h0, .inr (11, [d0, d1, d2, d3, .ref h1, d5, d6, d7, d8, d9, d10, d11, d12, d13, d14, .ref h2, d16, d17, d18, d19])), (h2, .inl (cI, 5, .inl (fun _ => 0)))]) [0, 2] (by decide) rfl
  have hFc := va_free (wc := [(h0, .inr (11, [d0, d1, d2, d3, .ref h1, d5, d6, d7, d8, d9, d10, d11, d12, d13, d14, .ref h2, d16, d17, d18, d19])), (h2, .inl (cI, 5, .inl (fun _ => 0)))]) hD hS hA [0, 2] rfl
  refine va_calli (va_runV (As := [.int 0]) (rest := []) ⟨hx, hb, hml, hown, hts⟩ (c_X11_refuse l dC dI cI cZ H.size h0 h2 d0 d1 d2 d3 (.ref h1) d5 d6 d7 d8 d9 d10 d11 d12 d13 d14 d16 d17 d18 d19) (cwV 1 hts gX11_swap_X11_refuse rfl rfl rfl (by decide +kernel) ⟨Nat.le_of_ble_eq_true rfl, Nat.le_of_ble_eq_true rfl⟩) (zPreV hPc hK hDc hG (ci := 11) (q0 := 0) rfl rfl) rfl rfl hl.1 rfl (lv_room (Nat.le_of_ble_eq_true rfl)) dX11_swap_24 ⟨Nat.le_of_ble_eq_true rfl, Nat.le_of_ble_eq_true rfl⟩) hS (fun q _ h => hFc q h) hFc (fun r2 u9 t9 H1 locs ht9 hvm hwr2 hB9 hz1 hk1 hS => ?_)
  have hP1 : va_P (dC, dI) vwCl [] H1 := zNoP
  have hD1 : va_D (va_A [(h0, .inr (11, [d0, d1, d2, d3, .ref h1, d5, d6, d7, d8, d9, d10, d11, d12, d13, d14, .ref h2, d16, d17, d18, d19])), (h2, .inl (cI, 5, .inl (fun _ => 0)))] H.size) [] := zNoD
  obtain ⟨hP, hD⟩ := va_join (wr := [(h1, .inr (1, [.int 0, .int 0, v0_2, v0_3, v0_4]))]) (w1 := []) hP hD [0, 2] [1] rfl rfl (by decide) (by decide) hk1 hFc hP1 hD1
  try clear hz1 hk1 hvm ht9 u9 hPc hDc hFc hP1 hD1 hB9
  generalize H1 = H at hP hS ⊢
  have hP : va_P (dC, dI) vwCl [(h1, .inr (1, [.int 0, .int 0, v0_2, v0_3, v0_4]))] H := hP
  have hD : va_D A [(h1, .inr (1, [.int 0, .int 0, v0_2, v0_3, v0_4]))] := hD
  obtain rfl : r2 = (-1) := hwr2.trans rfl
  exact W.iret (v := (-1)) hx hb hr (fun t ht hW => ⟨⟨(-1), (), rfl, (by unfold s_X11_swap; first | rfl | simp), trivial⟩, hS.F ht⟩) hS.2.2 dX11_swap_27

def s_X11_nights : Int32 := (-1)
set_option maxHeartbeats 4000000 in
set_option maxRecDepth 100000 in
theorem c_X11_nights (l : Launch) (dC : Nat → ClassId) (dI : Nat → Nat → Nat) (cI cZ : ClassId) (sz : Nat) (h0 : Nat) (h1 : Nat) (h2 : Nat) (d0 : Value) (d1 : Value) (d2 : Value) (d3 : Value) (d5 : Value) (d6 : Value) (d7 : Value) (d8 : Value) (d9 : Value) (d10 : Value) (d11 : Value) (d12 : Value) (d13 : Value) (d14 : Value) (d16 : Value) (d17 : Value) (d18 : Value) (d19 : Value) (v0_2 : Value) (v0_3 : Value) (v0_4 : Value) (p0 : Int32) : Met l yX11_nights wsX11_nights ({ frames := 1, cells := 0, slots := 0, locals := 21 }) (va_Pc [.ref h0, .int p0] (zPre dC dI cI cZ sz [(h0, .inr (11, [d0, d1, d2, d3, .ref h1, d5, d6, d7, d8, d9, d10, d11, d12, d13, d14, .ref h2, d16, d17, d18, d19])), (h1, .inr (1, [.int 0, .int 0, v0_2, v0_3, v0_4])), (h2, .inl (cI, 5, .inl (fun _ => 0)))])) (va_Qi (fun (r : Int32) (_ : Unit) => r = s_X11_nights) (fun (_ : Unit) _ => True) (va_A [(h0, .inr (11, [d0, d1, d2, d3, .ref h1, d5, d6, d7, d8, d9, d10, d11, d12, d13, d14, .ref h2, d16, d17, d18, d19])), (h1, .inr (1, [.int 0, .int 0, v0_2, v0_3, v0_4])), (h2, .inl (cI, 5, .inl (fun _ => 0)))] sz)) 0 0 (va_A [(h0, .inr (11, [d0, d1, d2, d3, .ref h1, d5, d6, d7, d8, d9, d10, d11, d12, d13, d14, .ref h2, d16, d17, d18, d19])), (h1, .inr (1, [.int 0, .int 0, v0_2, v0_3, v0_4])), (h2, .inl (cI, 5, .inl (fun _ => 0)))] sz) := by
  refine Met.ofW (cc := cX11_nights) (maxL := 3) (ret := (some .int)) (by decide) rfl ?_
  intro p e s m args below meth c s₁ B hml hv
  obtain ⟨rfl, hsz, hP, hK, hD0, hG⟩ := hv
  have hx := B.exec
  have hb := B.bytes
  have hr := B.returns
  have hts := atoms_spec (ws := wsX11_nights) B.pre
  have hown : s.vm.findClass RX11 = some m.cls := findClass_of_methodNamed B.named
  have hlocks := B.notSynchronized
  subst hsz
  have hD := hD0.self (sz := s.heap.size)
  generalize hAe : va_A [(h0, .inr (11, [d0, d1, d2, d3, .ref h1, d5, d6, d7, d8, d9, d10, d11, d12, d13, d14, .ref h2, d16, d17, d18, d19])), (h1, .inr (1, [.int 0, .int 0, v0_2, v0_3, v0_4])), (h2, .inl (cI, 5, .inl (fun _ => 0)))] s.heap.size = A at hD ⊢
  have hA : ∀ q : Nat, s.heap.size ≤ q → A q := fun q h => by rw [← hAe]; exact Or.inr h
  have hS : va_S A s.heap s.heap [] := va_S.rf
  have hP : va_P (dC, dI) vwCl [(h0, .inr (11, [d0, d1, d2, d3, .ref h1, d5, d6, d7, d8, d9, d10, d11, d12, d13, d14, .ref h2, d16, d17, d18, d19])), (h1, .inr (1, [.int 0, .int 0, v0_2, v0_3, v0_4])), (h2, .inl (cI, 5, .inl (fun _ => 0)))] s.heap := hP
  have hl := lv_entry ([.ref h0, .int p0]) (n := 3) (Nat.le_of_ble_eq_true rfl)
  rw [lg_entry_eq]
  generalize (lg_sl ([.ref h0, .int p0]) ++ List.replicate (3 - (lg_sl ([.ref h0, .int p0])).length) Slot.unset).toArray = ls at hl ⊢
  have hl : lv_has ls 3 [(0, .ref h0), (1, .int p0)] := hl
  refine lv_aload_n hx hb dX11_nights_0 rfl (lv_at hl 0 rfl) ?_
  have hPc := hP.sub (ws' := [(h0, .inr (11, [d0, d1, d2, d3, .ref h1, d5, d6, d7, d8, d9, d10, d11, d12, d13, d14, .ref h2, d16, d17, d18, d19])), (h1, .inr (1, [.int 0, .int 0, v0_2, v0_3, v0_4]))]) [0, 1] rfl
  have hDc := hD.sub (ws' := [(h0, .inr (11, [d0, d1, d2, d3, .ref h1, d5, d6, d7, d8, d9, d10, d11, d12, d13, d14, .ref h2, d16, d17, d18, d19])), (h1, .inr (1, [.int 0, .int 0, v0_2, v0_3, v0_4]))]) [0, 1] (by decide) rfl
  refine va_calli (va_runV (As := []) (rest := []) ⟨hx, hb, hml, hown, hts⟩ (c_X11_hasFort l dC dI cI cZ s.heap.size h0 h1 d0 d1 d2 d3 d5 d6 d7 d8 d9 d10 d11 d12 d13 d14 (.ref h2) d16 d17 d18 d19 (.int 0) v0_2 v0_3 v0_4) (cwV 0 hts gX11_nights_X11_hasFort rfl rfl rfl (by decide +kernel) ⟨Nat.le_of_ble_eq_true rfl, Nat.le_of_ble_eq_true rfl⟩) (zPreV hPc hK hDc hG (ci := 11) (q0 := 0) rfl rfl) rfl rfl hl.1 rfl (lv_room (Nat.le_of_ble_eq_true rfl)) dX11_nights_1 ⟨Nat.le_of_ble_eq_true rfl, Nat.le_of_ble_eq_true rfl⟩) hS (fun _ _ h => h.elim) (fun _ h => h.elim) (fun r1 u9 t9 H1 locs ht9 hvm hwr1 hB9 hz1 hk1 hS => ?_)
  replace hP := zKept hP hk1
  try clear hB9 hz1 hk1 hvm ht9 u9 hPc hDc
  generalize H1 = H at hP hS ⊢
  obtain rfl : r1 = 0 := hwr1.trans rfl
  refine lv_if_ne (tgt := 13) hx hb dX11_nights_4 (by decide) (fun c9 => absurd (by decide) c9) (fun _ => ?_)
  refine lv_aload_n hx hb dX11_nights_7 rfl (lv_at hl 0 rfl) ?_
  refine lv_iconst (v := 0) hx hb dX11_nights_8 (by decide) ?_
  have hPc := hP.sub (ws' := [(h0, .inr (11, [d0, d1, d2, d3, .ref h1, d5, d6, d7, d8, d9, d10, d11, d12, d13, d14, .ref h2, d16, d17, d18, d19])), (h2, .inl (cI, 5, .inl (fun _ => 0)))]) [0, 2] rfl
  have hDc := hD.sub (ws' := [(h0, .inr (11, [d0, d1, d2, d3, .ref h1, d5, d6, d7, d8, d9, d10, d11, d12, d13, d14, .ref h2, d16, d17, d18, d19])), (h2, .inl (cI, 5, .inl (fun _ => 0)))]) [0, 2] (by decide) rfl
  have hFc := va_free (wc := [(h0, .inr (11, [d0, d1, d2, d3, .ref h1, d5, d6, d7, d8, d9, d10, d11, d12, d13, d14, .ref h2, d16, d17, d18, d19])), (h2, .inl (cI, 5, .inl (fun _ => 0)))]) hD hS hA [0, 2] rfl
  refine va_calli (va_runV (As := [.int 0]) (rest := []) ⟨hx, hb, hml, hown, hts⟩ (c_X11_refuse l dC dI cI cZ H.size h0 h2 d0 d1 d2 d3 (.ref h1) d5 d6 d7 d8 d9 d10 d11 d12 d13 d14 d16 d17 d18 d19) (cwV 1 hts gX11_nights_X11_refuse rfl rfl rfl (by decide +kernel) ⟨Nat.le_of_ble_eq_true rfl, Nat.le_of_ble_eq_true rfl⟩) (zPreV hPc hK hDc hG (ci := 11) (q0 := 0) rfl rfl) rfl rfl hl.1 rfl (lv_room (Nat.le_of_ble_eq_true rfl)) dX11_nights_9 ⟨Nat.le_of_ble_eq_true rfl, Nat.le_of_ble_eq_true rfl⟩) hS (fun q _ h => hFc q h) hFc (fun r2 u9 t9 H1 locs ht9 hvm hwr2 hB9 hz1 hk1 hS => ?_)
  have hP1 : va_P (dC, dI) vwCl [] H1 := zNoP
  have hD1 : va_D (va_A [(h0, .inr (11, [d0, d1, d2, d3, .ref h1, d5, d6, d7, d8, d9, d10, d11, d12, d13, d14, .ref h2, d16, d17, d18, d19])), (h2, .inl (cI, 5, .inl (fun _ => 0)))] H.size) [] := zNoD
  obtain ⟨hP, hD⟩ := va_join (wr := [(h1, .inr (1, [.int 0, .int 0, v0_2, v0_3, v0_4]))]) (w1 := []) hP hD [0, 2] [1] rfl rfl (by decide) (by decide) hk1 hFc hP1 hD1
  try clear hz1 hk1 hvm ht9 u9 hPc hDc hFc hP1 hD1 hB9
  generalize H1 = H at hP hS ⊢
  have hP : va_P (dC, dI) vwCl [(h1, .inr (1, [.int 0, .int 0, v0_2, v0_3, v0_4]))] H := hP
  have hD : va_D A [(h1, .inr (1, [.int 0, .int 0, v0_2, v0_3, v0_4]))] := hD
  obtain rfl : r2 = (-1) := hwr2.trans rfl
  exact W.iret (v := (-1)) hx hb hr (fun t ht hW => ⟨⟨(-1), (), rfl, (by unfold s_X11_nights; first | rfl | simp), trivial⟩, hS.F ht⟩) hS.2.2 dX11_nights_12

def s_X11_end (p0 : Int32) : Int32 := (if p0 < 0 then 0 else (if p0 ≤ 0 then 1 else 0))
set_option maxHeartbeats 4000000 in
set_option maxRecDepth 100000 in
theorem c_X11_end (l : Launch) (dC : Nat → ClassId) (dI : Nat → Nat → Nat) (cI cZ : ClassId) (sz : Nat) (h0 : Nat) (h1 : Nat) (d1 : Value) (d2 : Value) (d3 : Value) (d4 : Value) (d5 : Value) (d6 : Value) (d7 : Value) (d8 : Value) (d9 : Value) (d10 : Value) (d11 : Value) (d12 : Value) (d13 : Value) (d14 : Value) (d15 : Value) (d16 : Value) (d17 : Value) (d18 : Value) (d19 : Value) (v0_0 : Value) (v0_2 : Value) (p0 : Int32) : Met l yX11_end wsX11_end ({ frames := 0, cells := 0, slots := 0, locals := 0 }) (va_Pc [.ref h0, .int p0] (zPre dC dI cI cZ sz [(h0, .inr (11, [.ref h1, d1, d2, d3, d4, d5, d6, d7, d8, d9, d10, d11, d12, d13, d14, d15, d16, d17, d18, d19])), (h1, .inr (10, [v0_0, .int 0, v0_2]))])) (va_Qi (fun (r : Int32) (_ : Unit) => r = s_X11_end p0) (fun (_ : Unit) _ => True) (va_A [(h0, .inr (11, [.ref h1, d1, d2, d3, d4, d5, d6, d7, d8, d9, d10, d11, d12, d13, d14, d15, d16, d17, d18, d19])), (h1, .inr (10, [v0_0, .int 0, v0_2]))] sz)) 0 0 (va_A [(h0, .inr (11, [.ref h1, d1, d2, d3, d4, d5, d6, d7, d8, d9, d10, d11, d12, d13, d14, d15, d16, d17, d18, d19])), (h1, .inr (10, [v0_0, .int 0, v0_2]))] sz) := by
  refine Met.ofW (cc := cX11_end) (maxL := 2) (ret := (some .boolean)) (by decide) rfl ?_
  intro p e s m args below meth c s₁ B hml hv
  obtain ⟨rfl, hsz, hP, hK, hD0, hG⟩ := hv
  have hx := B.exec
  have hb := B.bytes
  have hr := B.returns
  have hts := atoms_spec (ws := wsX11_end) B.pre
  have hown : s.vm.findClass RX11 = some m.cls := findClass_of_methodNamed B.named
  have hlocks := B.notSynchronized
  have hinX10 : ∀ w ∈ wsX100, w ∈ wsX11_end := by decide +kernel
  have hinX11 : ∀ w ∈ wsX110, w ∈ wsX11_end := by decide +kernel
  subst hsz
  have hD := hD0.self (sz := s.heap.size)
  generalize hAe : va_A [(h0, .inr (11, [.ref h1, d1, d2, d3, d4, d5, d6, d7, d8, d9, d10, d11, d12, d13, d14, d15, d16, d17, d18, d19])), (h1, .inr (10, [v0_0, .int 0, v0_2]))] s.heap.size = A at hD ⊢
  have hA : ∀ q : Nat, s.heap.size ≤ q → A q := fun q h => by rw [← hAe]; exact Or.inr h
  have hS : va_S A s.heap s.heap [] := va_S.rf
  have hP : va_P (dC, dI) vwCl [(h0, .inr (11, [.ref h1, d1, d2, d3, d4, d5, d6, d7, d8, d9, d10, d11, d12, d13, d14, d15, d16, d17, d18, d19])), (h1, .inr (10, [v0_0, .int 0, v0_2]))] s.heap := hP
  have hl := lv_entry ([.ref h0, .int p0]) (n := 2) (Nat.le_of_ble_eq_true rfl)
  rw [lg_entry_eq]
  generalize (lg_sl ([.ref h0, .int p0]) ++ List.replicate (2 - (lg_sl ([.ref h0, .int p0])).length) Slot.unset).toArray = ls at hl ⊢
  have hl : lv_has ls 2 [(0, .ref h0), (1, .int p0)] := hl
  refine lv_iload_n hx hb dX11_end_0 rfl (lv_at hl 1 rfl) ?_
  refine lv_if_lt (tgt := 15) hx hb dX11_end_1 (by decide) (fun c1 => ?_) (fun c1 => ?_)
  · skip
    refine lv_iconst (v := 0) hx hb dX11_end_15 (by decide) ?_
    exact W.zret (v := 0) hx hb hr rfl (fun t ht hW => ⟨⟨0, (), rfl, (by unfold s_X11_end; rw [if_pos c1]), trivial⟩, hS.F ht⟩) hS.2.2 dX11_end_16
  · skip
    refine lv_iload_n hx hb dX11_end_4 rfl (lv_at hl 1 rfl) ?_
    refine lv_aload_n hx hb dX11_end_5 rfl (lv_at hl 0 rfl) ?_
    refine va_get (D := (dC, dI)) (ci := 11) (v := .ref h1) (C := RX11) (T := TX11) (N := 20) hx hb hts hinX11 hown hK hP 0 rfl rfl 0 (by decide) (hts (.fieldLink RX11 10 "DreamGuard" "tape" "LDreamGuard$Tape;") (by decide +kernel)) (fun _ h9 => h9) rfl dX11_end_6 ?_
    refine va_get (D := (dC, dI)) (ci := 10) (v := .int 0) (C := RX10) (T := TX10) (N := 3) hx hb hts hinX10 hown hK hP 1 rfl rfl 1 (by decide) (hts (.fieldLink RX11 129 "DreamGuard$Tape" "length" "I") (by decide +kernel)) (fun _ h9 => h9) rfl dX11_end_9 ?_
    refine lv_icmp_le (tgt := 17) hx hb dX11_end_12 (by decide) (fun c2 => ?_) (fun c2 => ?_)
    · skip
      refine lv_aload_n hx hb dX11_end_17 rfl (lv_at hl 0 rfl) ?_
      refine va_get (D := (dC, dI)) (ci := 11) (v := .ref h1) (C := RX11) (T := TX11) (N := 20) hx hb hts hinX11 hown hK hP 0 rfl rfl 0 (by decide) (hts (.fieldLink RX11 10 "DreamGuard" "tape" "LDreamGuard$Tape;") (by decide +kernel)) (fun _ h9 => h9) rfl dX11_end_18 ?_
      refine lv_iload_n hx hb dX11_end_21 rfl (lv_at hl 1 rfl) ?_
      refine va_put (D := (dC, dI)) (ci := 10) (v := .int p0) (ty := .int) (C := RX10) (T := TX10) (N := 3) hx hb hts hinX10 tyX10 tyX10_ok nmX10 hown hK hP hD hS 1 rfl rfl 1 (by decide) (hts (.fieldLink RX11 129 "DreamGuard$Tape" "length" "I") (by decide +kernel)) (fun _ h9 => h9) rfl (by decide +kernel) rfl rfl (Nat.le_of_ble_eq_true rfl) dX11_end_22 (fun H locs hP hD hS => ?_)
      have hP : va_P (dC, dI) vwCl [(h0, .inr (11, [.ref h1, d1, d2, d3, d4, d5, d6, d7, d8, d9, d10, d11, d12, d13, d14, d15, d16, d17, d18, d19])), (h1, .inr (10, [v0_0, .int p0, v0_2]))] H := hP
      have hD : va_D A [(h0, .inr (11, [.ref h1, d1, d2, d3, d4, d5, d6, d7, d8, d9, d10, d11, d12, d13, d14, d15, d16, d17, d18, d19])), (h1, .inr (10, [v0_0, .int p0, v0_2]))] := hD
      refine lv_iconst (v := 1) hx hb dX11_end_25 (by decide) ?_
      exact W.zret (v := 1) hx hb hr rfl (fun t ht hW => ⟨⟨1, (), rfl, (by unfold s_X11_end; rw [if_neg c1, if_pos c2]), trivial⟩, hS.F ht⟩) hS.2.2 dX11_end_26
    · skip
      refine lv_iconst (v := 0) hx hb dX11_end_15 (by decide) ?_
      exact W.zret (v := 0) hx hb hr rfl (fun t ht hW => ⟨⟨0, (), rfl, (by unfold s_X11_end; rw [if_neg c1, if_neg c2]), trivial⟩, hS.F ht⟩) hS.2.2 dX11_end_16

def s_X11_law (p0 : Int32) : Int32 := (if p0 < (-1) then 0 else (if p0 < 0 then 1 else 0))
set_option maxHeartbeats 4000000 in
set_option maxRecDepth 100000 in
theorem c_X11_law (l : Launch) (dC : Nat → ClassId) (dI : Nat → Nat → Nat) (cI cZ : ClassId) (sz : Nat) (h0 : Nat) (h1 : Nat) (d0 : Value) (d1 : Value) (d2 : Value) (d4 : Value) (d5 : Value) (d6 : Value) (d7 : Value) (d8 : Value) (d9 : Value) (d10 : Value) (d11 : Value) (d12 : Value) (d13 : Value) (d14 : Value) (d15 : Value) (d16 : Value) (d17 : Value) (d18 : Value) (d19 : Value) (v0_0 : Value) (v0_1 : Value) (v0_2 : Value) (v0_3 : Value) (v0_5 : Value) (p0 : Int32) : Met l yX11_law wsX11_law ({ frames := 0, cells := 0, slots := 0, locals := 0 }) (va_Pc [.ref h0, .int p0] (zPre dC dI cI cZ sz [(h0, .inr (11, [d0, d1, d2, .ref h1, d4, d5, d6, d7, d8, d9, d10, d11, d12, d13, d14, d15, d16, d17, d18, d19])), (h1, .inr (3, [v0_0, v0_1, v0_2, v0_3, .int 0, v0_5]))])) (va_Qi (fun (r : Int32) (_ : Unit) => r = s_X11_law p0) (fun (_ : Unit) _ => True) (va_A [(h0, .inr (11, [d0, d1, d2, .ref h1, d4, d5, d6, d7, d8, d9, d10, d11, d12, d13, d14, d15, d16, d17, d18, d19])), (h1, .inr (3, [v0_0, v0_1, v0_2, v0_3, .int 0, v0_5]))] sz)) 0 0 (va_A [(h0, .inr (11, [d0, d1, d2, .ref h1, d4, d5, d6, d7, d8, d9, d10, d11, d12, d13, d14, d15, d16, d17, d18, d19])), (h1, .inr (3, [v0_0, v0_1, v0_2, v0_3, .int 0, v0_5]))] sz) := by
  refine Met.ofW (cc := cX11_law) (maxL := 2) (ret := (some .boolean)) (by decide) rfl ?_
  intro p e s m args below meth c s₁ B hml hv
  obtain ⟨rfl, hsz, hP, hK, hD0, hG⟩ := hv
  have hx := B.exec
  have hb := B.bytes
  have hr := B.returns
  have hts := atoms_spec (ws := wsX11_law) B.pre
  have hown : s.vm.findClass RX11 = some m.cls := findClass_of_methodNamed B.named
  have hlocks := B.notSynchronized
  have hinX11 : ∀ w ∈ wsX110, w ∈ wsX11_law := by decide +kernel
  have hinX3 : ∀ w ∈ wsX30, w ∈ wsX11_law := by decide +kernel
  subst hsz
  have hD := hD0.self (sz := s.heap.size)
  generalize hAe : va_A [(h0, .inr (11, [d0, d1, d2, .ref h1, d4, d5, d6, d7, d8, d9, d10, d11, d12, d13, d14, d15, d16, d17, d18, d19])), (h1, .inr (3, [v0_0, v0_1, v0_2, v0_3, .int 0, v0_5]))] s.heap.size = A at hD ⊢
  have hA : ∀ q : Nat, s.heap.size ≤ q → A q := fun q h => by rw [← hAe]; exact Or.inr h
  have hS : va_S A s.heap s.heap [] := va_S.rf
  have hP : va_P (dC, dI) vwCl [(h0, .inr (11, [d0, d1, d2, .ref h1, d4, d5, d6, d7, d8, d9, d10, d11, d12, d13, d14, d15, d16, d17, d18, d19])), (h1, .inr (3, [v0_0, v0_1, v0_2, v0_3, .int 0, v0_5]))] s.heap := hP
  have hl := lv_entry ([.ref h0, .int p0]) (n := 2) (Nat.le_of_ble_eq_true rfl)
  rw [lg_entry_eq]
  generalize (lg_sl ([.ref h0, .int p0]) ++ List.replicate (2 - (lg_sl ([.ref h0, .int p0])).length) Slot.unset).toArray = ls at hl ⊢
  have hl : lv_has ls 2 [(0, .ref h0), (1, .int p0)] := hl
  refine lv_iload_n hx hb dX11_law_0 rfl (lv_at hl 1 rfl) ?_
  refine lv_iconst (v := (-1)) hx hb dX11_law_1 (by decide) ?_
  refine lv_icmp_lt (tgt := 16) hx hb dX11_law_2 (by decide) (fun c1 => ?_) (fun c1 => ?_)
  · skip
    refine lv_iconst (v := 0) hx hb dX11_law_16 (by decide) ?_
    exact W.zret (v := 0) hx hb hr rfl (fun t ht hW => ⟨⟨0, (), rfl, (by unfold s_X11_law; rw [if_pos c1]), trivial⟩, hS.F ht⟩) hS.2.2 dX11_law_17
  · skip
    refine lv_iload_n hx hb dX11_law_5 rfl (lv_at hl 1 rfl) ?_
    refine lv_aload_n hx hb dX11_law_6 rfl (lv_at hl 0 rfl) ?_
    refine va_get (D := (dC, dI)) (ci := 11) (v := .ref h1) (C := RX11) (T := TX11) (N := 20) hx hb hts hinX11 hown hK hP 0 rfl rfl 3 (by decide) (hts (.fieldLink RX11 35 "DreamGuard" "laws" "LDreamGuard$LawBook;") (by decide +kernel)) (fun _ h9 => h9) rfl dX11_law_7 ?_
    refine va_get (D := (dC, dI)) (ci := 3) (v := .int 0) (C := RX3) (T := TX3) (N := 6) hx hb hts hinX3 hown hK hP 1 rfl rfl 4 (by decide) (hts (.fieldLink RX11 156 "DreamGuard$LawBook" "count" "I") (by decide +kernel)) (fun _ h9 => h9) rfl dX11_law_10 ?_
    refine lv_icmp_lt (tgt := 18) hx hb dX11_law_13 (by decide) (fun c2 => ?_) (fun c2 => ?_)
    · skip
      refine lv_aload_n hx hb dX11_law_18 rfl (lv_at hl 0 rfl) ?_
      refine va_get (D := (dC, dI)) (ci := 11) (v := .ref h1) (C := RX11) (T := TX11) (N := 20) hx hb hts hinX11 hown hK hP 0 rfl rfl 3 (by decide) (hts (.fieldLink RX11 35 "DreamGuard" "laws" "LDreamGuard$LawBook;") (by decide +kernel)) (fun _ h9 => h9) rfl dX11_law_19 ?_
      refine lv_iload_n hx hb dX11_law_22 rfl (lv_at hl 1 rfl) ?_
      refine va_put (D := (dC, dI)) (ci := 3) (v := .int p0) (ty := .int) (C := RX3) (T := TX3) (N := 6) hx hb hts hinX3 tyX3 tyX3_ok nmX3 hown hK hP hD hS 1 rfl rfl 5 (by decide) (hts (.fieldLink RX11 222 "DreamGuard$LawBook" "holding" "I") (by decide +kernel)) (fun _ h9 => h9) rfl (by decide +kernel) rfl rfl (Nat.le_of_ble_eq_true rfl) dX11_law_23 (fun H locs hP hD hS => ?_)
      have hP : va_P (dC, dI) vwCl [(h0, .inr (11, [d0, d1, d2, .ref h1, d4, d5, d6, d7, d8, d9, d10, d11, d12, d13, d14, d15, d16, d17, d18, d19])), (h1, .inr (3, [v0_0, v0_1, v0_2, v0_3, .int 0, .int p0]))] H := hP
      have hD : va_D A [(h0, .inr (11, [d0, d1, d2, .ref h1, d4, d5, d6, d7, d8, d9, d10, d11, d12, d13, d14, d15, d16, d17, d18, d19])), (h1, .inr (3, [v0_0, v0_1, v0_2, v0_3, .int 0, .int p0]))] := hD
      refine lv_iconst (v := 1) hx hb dX11_law_26 (by decide) ?_
      exact W.zret (v := 1) hx hb hr rfl (fun t ht hW => ⟨⟨1, (), rfl, (by unfold s_X11_law; rw [if_neg c1, if_pos c2]), trivial⟩, hS.F ht⟩) hS.2.2 dX11_law_27
    · skip
      refine lv_iconst (v := 0) hx hb dX11_law_16 (by decide) ?_
      exact W.zret (v := 0) hx hb hr rfl (fun t ht hW => ⟨⟨0, (), rfl, (by unfold s_X11_law; rw [if_neg c1, if_neg c2]), trivial⟩, hS.F ht⟩) hS.2.2 dX11_law_17

def s_X11_snow (p0 : Int32) : Int32 := (if p0 < 0 then 0 else (if 9 < p0 then 0 else (if p0 = 0 then 0 else 1)))
set_option maxHeartbeats 4000000 in
set_option maxRecDepth 100000 in
theorem c_X11_snow (l : Launch) (dC : Nat → ClassId) (dI : Nat → Nat → Nat) (cI cZ : ClassId) (sz : Nat) (h0 : Nat) (d0 : Value) (d1 : Value) (d2 : Value) (d3 : Value) (d4 : Value) (d5 : Value) (d6 : Value) (d7 : Value) (d8 : Value) (d9 : Value) (d10 : Value) (d11 : Value) (d12 : Value) (d13 : Value) (d14 : Value) (d15 : Value) (d16 : Value) (d17 : Value) (d19 : Value) (p0 : Int32) : Met l yX11_snow wsX11_snow ({ frames := 0, cells := 0, slots := 0, locals := 0 }) (va_Pc [.ref h0, .int p0] (zPre dC dI cI cZ sz [(h0, .inr (11, [d0, d1, d2, d3, d4, d5, d6, d7, d8, d9, d10, d11, d12, d13, d14, d15, d16, d17, .int 0, d19]))])) (va_Qi (fun (r : Int32) (_ : Unit) => r = s_X11_snow p0) (fun (_ : Unit) _ => True) (va_A [(h0, .inr (11, [d0, d1, d2, d3, d4, d5, d6, d7, d8, d9, d10, d11, d12, d13, d14, d15, d16, d17, .int 0, d19]))] sz)) 0 0 (va_A [(h0, .inr (11, [d0, d1, d2, d3, d4, d5, d6, d7, d8, d9, d10, d11, d12, d13, d14, d15, d16, d17, .int 0, d19]))] sz) := by
  refine Met.ofW (cc := cX11_snow) (maxL := 2) (ret := (some .boolean)) (by decide) rfl ?_
  intro p e s m args below meth c s₁ B hml hv
  obtain ⟨rfl, hsz, hP, hK, hD0, hG⟩ := hv
  have hx := B.exec
  have hb := B.bytes
  have hr := B.returns
  have hts := atoms_spec (ws := wsX11_snow) B.pre
  have hown : s.vm.findClass RX11 = some m.cls := findClass_of_methodNamed B.named
  have hlocks := B.notSynchronized
  have hinX11 : ∀ w ∈ wsX110, w ∈ wsX11_snow := by decide +kernel
  subst hsz
  have hD := hD0.self (sz := s.heap.size)
  generalize hAe : va_A [(h0, .inr (11, [d0, d1, d2, d3, d4, d5, d6, d7, d8, d9, d10, d11, d12, d13, d14, d15, d16, d17, .int 0, d19]))] s.heap.size = A at hD ⊢
  have hA : ∀ q : Nat, s.heap.size ≤ q → A q := fun q h => by rw [← hAe]; exact Or.inr h
  have hS : va_S A s.heap s.heap [] := va_S.rf
  have hP : va_P (dC, dI) vwCl [(h0, .inr (11, [d0, d1, d2, d3, d4, d5, d6, d7, d8, d9, d10, d11, d12, d13, d14, d15, d16, d17, .int 0, d19]))] s.heap := hP
  have hl := lv_entry ([.ref h0, .int p0]) (n := 2) (Nat.le_of_ble_eq_true rfl)
  rw [lg_entry_eq]
  generalize (lg_sl ([.ref h0, .int p0]) ++ List.replicate (2 - (lg_sl ([.ref h0, .int p0])).length) Slot.unset).toArray = ls at hl ⊢
  have hl : lv_has ls 2 [(0, .ref h0), (1, .int p0)] := hl
  refine lv_iload_n hx hb dX11_snow_0 rfl (lv_at hl 1 rfl) ?_
  refine lv_if_lt (tgt := 18) hx hb dX11_snow_1 (by decide) (fun c1 => ?_) (fun c1 => ?_)
  · skip
    refine lv_iconst (v := 0) hx hb dX11_snow_18 (by decide) ?_
    exact W.zret (v := 0) hx hb hr rfl (fun t ht hW => ⟨⟨0, (), rfl, (by unfold s_X11_snow; rw [if_pos c1]), trivial⟩, hS.F ht⟩) hS.2.2 dX11_snow_19
  · skip
    refine lv_iload_n hx hb dX11_snow_4 rfl (lv_at hl 1 rfl) ?_
    refine lv_bipush (v := 9) hx hb dX11_snow_5 (by decide) ?_
    refine lv_icmp_gt (tgt := 18) hx hb dX11_snow_7 (by decide) (fun c2 => ?_) (fun c2 => ?_)
    · skip
      refine lv_iconst (v := 0) hx hb dX11_snow_18 (by decide) ?_
      exact W.zret (v := 0) hx hb hr rfl (fun t ht hW => ⟨⟨0, (), rfl, (by unfold s_X11_snow; rw [if_neg c1, if_pos c2]), trivial⟩, hS.F ht⟩) hS.2.2 dX11_snow_19
    · skip
      refine lv_iload_n hx hb dX11_snow_10 rfl (lv_at hl 1 rfl) ?_
      refine lv_aload_n hx hb dX11_snow_11 rfl (lv_at hl 0 rfl) ?_
      refine va_get (D := (dC, dI)) (ci := 11) (v := .int 0) (C := RX11) (T := TX11) (N := 20) hx hb hts hinX11 hown hK hP 0 rfl rfl 18 (by decide) (hts (.fieldLink RX11 117 "DreamGuard" "snowing" "I") (by decide +kernel)) (fun _ h9 => h9) rfl dX11_snow_12 ?_
      refine lv_icmp_ne (tgt := 20) hx hb dX11_snow_15 (by decide) (fun c3 => ?_) (fun c3 => ?_)
      · skip
        refine lv_aload_n hx hb dX11_snow_20 rfl (lv_at hl 0 rfl) ?_
        refine lv_iload_n hx hb dX11_snow_21 rfl (lv_at hl 1 rfl) ?_
        refine va_put (D := (dC, dI)) (ci := 11) (v := .int p0) (ty := .int) (C := RX11) (T := TX11) (N := 20) hx hb hts hinX11 tyX11 tyX11_ok nmX11 hown hK hP hD hS 0 rfl rfl 18 (by decide) (hts (.fieldLink RX11 117 "DreamGuard" "snowing" "I") (by decide +kernel)) (fun _ h9 => h9) rfl (by decide +kernel) rfl rfl (Nat.le_of_ble_eq_true rfl) dX11_snow_22 (fun H locs hP hD hS => ?_)
        have hP : va_P (dC, dI) vwCl [(h0, .inr (11, [d0, d1, d2, d3, d4, d5, d6, d7, d8, d9, d10, d11, d12, d13, d14, d15, d16, d17, .int p0, d19]))] H := hP
        have hD : va_D A [(h0, .inr (11, [d0, d1, d2, d3, d4, d5, d6, d7, d8, d9, d10, d11, d12, d13, d14, d15, d16, d17, .int p0, d19]))] := hD
        refine lv_iconst (v := 1) hx hb dX11_snow_25 (by decide) ?_
        exact W.zret (v := 1) hx hb hr rfl (fun t ht hW => ⟨⟨1, (), rfl, (by unfold s_X11_snow; rw [if_neg c1, if_neg c2, if_neg c3]), trivial⟩, hS.F ht⟩) hS.2.2 dX11_snow_26
      · skip
        refine lv_iconst (v := 0) hx hb dX11_snow_18 (by decide) ?_
        exact W.zret (v := 0) hx hb hr rfl (fun t ht hW => ⟨⟨0, (), rfl, (by unfold s_X11_snow; rw [if_neg c1, if_neg c2, if_pos c3]), trivial⟩, hS.F ht⟩) hS.2.2 dX11_snow_19

def s_X11_back : Int32 := (-1)
set_option maxHeartbeats 4000000 in
set_option maxRecDepth 100000 in
theorem c_X11_back (l : Launch) (dC : Nat → ClassId) (dI : Nat → Nat → Nat) (cI cZ : ClassId) (sz : Nat) (h0 : Nat) (d0 : Value) (d1 : Value) (d2 : Value) (d3 : Value) (d4 : Value) (d5 : Value) (d6 : Value) (d7 : Value) (d9 : Value) (d10 : Value) (d11 : Value) (d12 : Value) (d13 : Value) (d14 : Value) (d15 : Value) (d16 : Value) (d17 : Value) (d18 : Value) (d19 : Value) : Met l yX11_back wsX11_back ({ frames := 0, cells := 0, slots := 0, locals := 0 }) (va_Pc [.ref h0] (zPre dC dI cI cZ sz [(h0, .inr (11, [d0, d1, d2, d3, d4, d5, d6, d7, .int 0, d9, d10, d11, d12, d13, d14, d15, d16, d17, d18, d19]))])) (va_Qi (fun (r : Int32) (_ : Unit) => r = s_X11_back) (fun (_ : Unit) _ => True) (fun _ => False)) 0 0 (fun _ => False) := by
  refine Met.ofW (cc := cX11_back) (maxL := 1) (ret := (some .int)) (by decide) rfl ?_
  intro p e s m args below meth c s₁ B hml hv
  obtain ⟨rfl, hsz, hP, hK, hD0, hG⟩ := hv
  have hx := B.exec
  have hb := B.bytes
  have hr := B.returns
  have hts := atoms_spec (ws := wsX11_back) B.pre
  have hown : s.vm.findClass RX11 = some m.cls := findClass_of_methodNamed B.named
  have hlocks := B.notSynchronized
  have hinX11 : ∀ w ∈ wsX110, w ∈ wsX11_back := by decide +kernel
  subst hsz
  have hS : va_S (fun _ : Nat => False) s.heap s.heap [] := va_S.rf
  have hP : va_P (dC, dI) vwCl [(h0, .inr (11, [d0, d1, d2, d3, d4, d5, d6, d7, .int 0, d9, d10, d11, d12, d13, d14, d15, d16, d17, d18, d19]))] s.heap := hP
  have hl := lv_entry ([.ref h0]) (n := 1) (Nat.le_of_ble_eq_true rfl)
  rw [lg_entry_eq]
  generalize (lg_sl ([.ref h0]) ++ List.replicate (1 - (lg_sl ([.ref h0])).length) Slot.unset).toArray = ls at hl ⊢
  have hl : lv_has ls 1 [(0, .ref h0)] := hl
  refine lv_aload_n hx hb dX11_back_0 rfl (lv_at hl 0 rfl) ?_
  refine va_get (D := (dC, dI)) (ci := 11) (v := .int 0) (C := RX11) (T := TX11) (N := 20) hx hb hts hinX11 hown hK hP 0 rfl rfl 8 (by decide) (hts (.fieldLink RX11 59 "DreamGuard" "hasImage" "Z") (by decide +kernel)) (fun _ h9 => h9) rfl dX11_back_1 ?_
  refine lv_if_ne (tgt := 9) hx hb dX11_back_4 (by decide) (fun c9 => absurd (by decide) c9) (fun _ => ?_)
  refine lv_iconst (v := (-1)) hx hb dX11_back_7 (by decide) ?_
  exact W.iret (v := (-1)) hx hb hr (fun t ht hW => ⟨⟨(-1), (), rfl, (by unfold s_X11_back; first | rfl | simp), trivial⟩, hS.F ht⟩) hS.2.2 dX11_back_8

def s_X11_undo : Int32 := (-1)
set_option maxHeartbeats 4000000 in
set_option maxRecDepth 100000 in
theorem c_X11_undo (l : Launch) (dC : Nat → ClassId) (dI : Nat → Nat → Nat) (cI cZ : ClassId) (sz : Nat) (h0 : Nat) (h1 : Nat) (d0 : Value) (d1 : Value) (d2 : Value) (d3 : Value) (d4 : Value) (d5 : Value) (d6 : Value) (d7 : Value) (d8 : Value) (d10 : Value) (d11 : Value) (d12 : Value) (d13 : Value) (d14 : Value) (d15 : Value) (d16 : Value) (d17 : Value) (d18 : Value) (d19 : Value) (v0_0 : Value) (v0_1 : Value) : Met l yX11_undo wsX11_undo ({ frames := 0, cells := 0, slots := 0, locals := 0 }) (va_Pc [.ref h0] (zPre dC dI cI cZ sz [(h0, .inr (11, [d0, d1, d2, d3, d4, d5, d6, d7, d8, .ref h1, d10, d11, d12, d13, d14, d15, d16, d17, d18, d19])), (h1, .inr (0, [v0_0, v0_1, .int 0]))])) (va_Qi (fun (r : Int32) (_ : Unit) => r = s_X11_undo) (fun (_ : Unit) _ => True) (fun _ => False)) 0 0 (fun _ => False) := by
  refine Met.ofW (cc := cX11_undo) (maxL := 1) (ret := (some .int)) (by decide) rfl ?_
  intro p e s m args below meth c s₁ B hml hv
  obtain ⟨rfl, hsz, hP, hK, hD0, hG⟩ := hv
  have hx := B.exec
  have hb := B.bytes
  have hr := B.returns
  have hts := atoms_spec (ws := wsX11_undo) B.pre
  have hown : s.vm.findClass RX11 = some m.cls := findClass_of_methodNamed B.named
  have hlocks := B.notSynchronized
  have hinX0 : ∀ w ∈ wsX00, w ∈ wsX11_undo := by decide +kernel
  have hinX11 : ∀ w ∈ wsX110, w ∈ wsX11_undo := by decide +kernel
  subst hsz
  have hS : va_S (fun _ : Nat => False) s.heap s.heap [] := va_S.rf
  have hP : va_P (dC, dI) vwCl [(h0, .inr (11, [d0, d1, d2, d3, d4, d5, d6, d7, d8, .ref h1, d10, d11, d12, d13, d14, d15, d16, d17, d18, d19])), (h1, .inr (0, [v0_0, v0_1, .int 0]))] s.heap := hP
  have hl := lv_entry ([.ref h0]) (n := 1) (Nat.le_of_ble_eq_true rfl)
  rw [lg_entry_eq]
  generalize (lg_sl ([.ref h0]) ++ List.replicate (1 - (lg_sl ([.ref h0])).length) Slot.unset).toArray = ls at hl ⊢
  have hl : lv_has ls 1 [(0, .ref h0)] := hl
  refine lv_aload_n hx hb dX11_undo_0 rfl (lv_at hl 0 rfl) ?_
  refine va_get (D := (dC, dI)) (ci := 11) (v := .ref h1) (C := RX11) (T := TX11) (N := 20) hx hb hts hinX11 hown hK hP 0 rfl rfl 9 (by decide) (hts (.fieldLink RX11 66 "DreamGuard" "acts" "LDreamGuard$Acts;") (by decide +kernel)) (fun _ h9 => h9) rfl dX11_undo_1 ?_
  refine va_get (D := (dC, dI)) (ci := 0) (v := .int 0) (C := RX0) (T := TX0) (N := 3) hx hb hts hinX0 hown hK hP 1 rfl rfl 2 (by decide) (hts (.fieldLink RX11 176 "DreamGuard$Acts" "count" "I") (by decide +kernel)) (fun _ h9 => h9) rfl dX11_undo_4 ?_
  refine lv_if_ne (tgt := 12) hx hb dX11_undo_7 (by decide) (fun c9 => absurd (by decide) c9) (fun _ => ?_)
  refine lv_iconst (v := (-1)) hx hb dX11_undo_10 (by decide) ?_
  exact W.iret (v := (-1)) hx hb hr (fun t ht hW => ⟨⟨(-1), (), rfl, (by unfold s_X11_undo; first | rfl | simp), trivial⟩, hS.F ht⟩) hS.2.2 dX11_undo_11

def s_X11_status (p0 : Int32) : Int32 := (if p0 < 0 then (-1) else (if p0 < 5 then 0 else (-1)))
set_option maxHeartbeats 4000000 in
set_option maxRecDepth 100000 in
theorem c_X11_status (l : Launch) (dC : Nat → ClassId) (dI : Nat → Nat → Nat) (cI cZ : ClassId) (sz : Nat) (h0 : Nat) (h2 : Nat) (d0 : Value) (d1 : Value) (d2 : Value) (d3 : Value) (d4 : Value) (d5 : Value) (d6 : Value) (d7 : Value) (d8 : Value) (d9 : Value) (d10 : Value) (d11 : Value) (d12 : Value) (d13 : Value) (d14 : Value) (d16 : Value) (d17 : Value) (d18 : Value) (d19 : Value) (p0 : Int32) : Met l yX11_status wsX11_status ({ frames := 0, cells := 0, slots := 0, locals := 0 }) (va_Pc [.ref h0, .int p0] (zPre dC dI cI cZ sz [(h0, .inr (11, [d0, d1, d2, d3, d4, d5, d6, d7, d8, d9, d10, d11, d12, d13, d14, .ref h2, d16, d17, d18, d19])), (h2, .inl (cI, 5, .inl (fun _ => 0)))])) (va_Qi (fun (r : Int32) (_ : Unit) => r = s_X11_status p0) (fun (_ : Unit) _ => True) (fun _ => False)) 0 0 (fun _ => False) := by
  refine Met.ofW (cc := cX11_status) (maxL := 2) (ret := (some .int)) (by decide) rfl ?_
  intro p e s m args below meth c s₁ B hml hv
  obtain ⟨rfl, hsz, hP, hK, hD0, hG⟩ := hv
  have hx := B.exec
  have hb := B.bytes
  have hr := B.returns
  have hts := atoms_spec (ws := wsX11_status) B.pre
  have hown : s.vm.findClass RX11 = some m.cls := findClass_of_methodNamed B.named
  have hlocks := B.notSynchronized
  have hinX11 : ∀ w ∈ wsX110, w ∈ wsX11_status := by decide +kernel
  subst hsz
  have hS : va_S (fun _ : Nat => False) s.heap s.heap [] := va_S.rf
  have hP : va_P (dC, dI) vwCl [(h0, .inr (11, [d0, d1, d2, d3, d4, d5, d6, d7, d8, d9, d10, d11, d12, d13, d14, .ref h2, d16, d17, d18, d19])), (h2, .inl (cI, 5, .inl (fun _ => 0)))] s.heap := hP
  have hl := lv_entry ([.ref h0, .int p0]) (n := 2) (Nat.le_of_ble_eq_true rfl)
  rw [lg_entry_eq]
  generalize (lg_sl ([.ref h0, .int p0]) ++ List.replicate (2 - (lg_sl ([.ref h0, .int p0])).length) Slot.unset).toArray = ls at hl ⊢
  have hl : lv_has ls 2 [(0, .ref h0), (1, .int p0)] := hl
  refine lv_iload_n hx hb dX11_status_0 rfl (lv_at hl 1 rfl) ?_
  refine lv_if_lt (tgt := 13) hx hb dX11_status_1 (by decide) (fun c1 => ?_) (fun c1 => ?_)
  · skip
    refine lv_iconst (v := (-1)) hx hb dX11_status_13 (by decide) ?_
    refine lv_goto (tgt := 23) hx hb dX11_status_14 (by decide) ?_
    exact W.iret (v := (-1)) hx hb hr (fun t ht hW => ⟨⟨(-1), (), rfl, (by unfold s_X11_status; rw [if_pos c1]), trivial⟩, hS.F ht⟩) hS.2.2 dX11_status_23
  · skip
    refine lv_iload_n hx hb dX11_status_4 rfl (lv_at hl 1 rfl) ?_
    refine lv_aload_n hx hb dX11_status_5 rfl (lv_at hl 0 rfl) ?_
    refine va_get (D := (dC, dI)) (ci := 11) (v := .ref h2) (C := RX11) (T := TX11) (N := 20) hx hb hts hinX11 hown hK hP 0 rfl rfl 15 (by decide) (hts (.fieldLink RX11 107 "DreamGuard" "refused" "[I") (by decide +kernel)) (fun _ h9 => h9) rfl dX11_status_6 ?_
    refine va_alen (v := 5) hx hb hK hP 1 0 rfl rfl (by decide) dX11_status_9 ?_
    refine lv_icmp_lt (tgt := 17) hx hb dX11_status_10 (by decide) (fun c2 => ?_) (fun c2 => ?_)
    · skip
      refine lv_aload_n hx hb dX11_status_17 rfl (lv_at hl 0 rfl) ?_
      refine va_get (D := (dC, dI)) (ci := 11) (v := .ref h2) (C := RX11) (T := TX11) (N := 20) hx hb hts hinX11 hown hK hP 0 rfl rfl 15 (by decide) (hts (.fieldLink RX11 107 "DreamGuard" "refused" "[I") (by decide +kernel)) (fun _ h9 => h9) rfl dX11_status_18 ?_
      refine lv_iload_n hx hb dX11_status_21 rfl (lv_at hl 1 rfl) ?_
      refine va_iald (i := p0) hx hb hK hP 1 0 rfl rfl (zin (M := 5) (by decide) c1 c2) dX11_status_22 ?_
      refine lv_topi (fun k3 ek3 => ?_)
      obtain rfl : k3 = 0 := ek3.trans rfl
      exact W.iret (v := 0) hx hb hr (fun t ht hW => ⟨⟨0, (), rfl, (by unfold s_X11_status; rw [if_neg c1, if_pos c2]), trivial⟩, hS.F ht⟩) hS.2.2 dX11_status_23
    · skip
      refine lv_iconst (v := (-1)) hx hb dX11_status_13 (by decide) ?_
      refine lv_goto (tgt := 23) hx hb dX11_status_14 (by decide) ?_
      exact W.iret (v := (-1)) hx hb hr (fun t ht hW => ⟨⟨(-1), (), rfl, (by unfold s_X11_status; rw [if_neg c1, if_neg c2]), trivial⟩, hS.F ht⟩) hS.2.2 dX11_status_23

def s_X11_log (p0 : Int32) : Int32 := (if p0 < 0 then (-1) else (-1))
set_option maxHeartbeats 4000000 in
set_option maxRecDepth 100000 in
theorem c_X11_log (l : Launch) (dC : Nat → ClassId) (dI : Nat → Nat → Nat) (cI cZ : ClassId) (sz : Nat) (h0 : Nat) (h1 : Nat) (d0 : Value) (d1 : Value) (d2 : Value) (d3 : Value) (d4 : Value) (d6 : Value) (d7 : Value) (d8 : Value) (d9 : Value) (d10 : Value) (d11 : Value) (d12 : Value) (d13 : Value) (d14 : Value) (d15 : Value) (d16 : Value) (d17 : Value) (d18 : Value) (d19 : Value) (v0_0 : Value) (v0_1 : Value) (v0_2 : Value) (v0_3 : Value) (v0_4 : Value) (v0_5 : Value) (v0_6 : Value) (v0_7 : Value) (v0_8 : Value) (p0 : Int32) (p1 : Int32) : Met l yX11_log wsX11_log ({ frames := 1, cells := 0, slots := 0, locals := 20 }) (va_Pc [.ref h0, .int p0, .int p1] (zPre dC dI cI cZ sz [(h0, .inr (11, [d0, d1, d2, d3, d4, .ref h1, d6, d7, d8, d9, d10, d11, d12, d13, d14, d15, d16, d17, d18, d19])), (h1, .inr (8, [v0_0, v0_1, v0_2, v0_3, v0_4, v0_5, v0_6, v0_7, v0_8, .int 0]))])) (va_Qi (fun (r : Int32) (_ : Unit) => r = s_X11_log p0) (fun (_ : Unit) _ => True) (fun _ => False)) 0 0 (fun _ => False) := by
  refine Met.ofW (cc := cX11_log) (maxL := 4) (ret := (some .int)) (by decide) rfl ?_
  intro p e s m args below meth c s₁ B hml hv
  obtain ⟨rfl, hsz, hP, hK, hD0, hG⟩ := hv
  have hx := B.exec
  have hb := B.bytes
  have hr := B.returns
  have hts := atoms_spec (ws := wsX11_log) B.pre
  have hown : s.vm.findClass RX11 = some m.cls := findClass_of_methodNamed B.named
  have hlocks := B.notSynchronized
  have hinX11 : ∀ w ∈ wsX110, w ∈ wsX11_log := by decide +kernel
  subst hsz
  have hS : va_S (fun _ : Nat => False) s.heap s.heap [] := va_S.rf
  have hP : va_P (dC, dI) vwCl [(h0, .inr (11, [d0, d1, d2, d3, d4, .ref h1, d6, d7, d8, d9, d10, d11, d12, d13, d14, d15, d16, d17, d18, d19])), (h1, .inr (8, [v0_0, v0_1, v0_2, v0_3, v0_4, v0_5, v0_6, v0_7, v0_8, .int 0]))] s.heap := hP
  have hl := lv_entry ([.ref h0, .int p0, .int p1]) (n := 4) (Nat.le_of_ble_eq_true rfl)
  rw [lg_entry_eq]
  generalize (lg_sl ([.ref h0, .int p0, .int p1]) ++ List.replicate (4 - (lg_sl ([.ref h0, .int p0, .int p1])).length) Slot.unset).toArray = ls at hl ⊢
  have hl : lv_has ls 4 [(0, .ref h0), (1, .int p0), (2, .int p1)] := hl
  refine lv_iload_n hx hb dX11_log_0 rfl (lv_at hl 1 rfl) ?_
  refine lv_if_lt (tgt := 15) hx hb dX11_log_1 (by decide) (fun c1 => ?_) (fun c1 => ?_)
  · skip
    refine lv_iconst (v := (-1)) hx hb dX11_log_15 (by decide) ?_
    exact W.iret (v := (-1)) hx hb hr (fun t ht hW => ⟨⟨(-1), (), rfl, (by unfold s_X11_log; rw [if_pos c1]), trivial⟩, hS.F ht⟩) hS.2.2 dX11_log_16
  · skip
    refine lv_iload_n hx hb dX11_log_4 rfl (lv_at hl 1 rfl) ?_
    refine lv_aload_n hx hb dX11_log_5 rfl (lv_at hl 0 rfl) ?_
    refine va_get (D := (dC, dI)) (ci := 11) (v := .ref h1) (C := RX11) (T := TX11) (N := 20) hx hb hts hinX11 hown hK hP 0 rfl rfl 5 (by decide) (hts (.fieldLink RX11 49 "DreamGuard" "now" "LDreamGuard$State;") (by decide +kernel)) (fun _ h9 => h9) rfl dX11_log_6 ?_
    have hPc := hP.sub (ws' := [(h1, .inr (8, [v0_0, v0_1, v0_2, v0_3, v0_4, v0_5, v0_6, v0_7, v0_8, .int 0]))]) [1] rfl
    have hDc := hD0.sub (ws' := [(h1, .inr (8, [v0_0, v0_1, v0_2, v0_3, v0_4, v0_5, v0_6, v0_7, v0_8, .int 0]))]) [1] (by decide) rfl
    refine va_calli (va_runV (As := []) (rest := [.int p0]) ⟨hx, hb, hml, hown, hts⟩ (c_X8_logLength l dC dI cI cZ s.heap.size h1 0 v0_0 v0_1 v0_2 v0_3 v0_4 v0_5 v0_6 v0_7 v0_8) (cwV 0 hts gX11_log_X8_logLength rfl rfl rfl (by decide +kernel) ⟨Nat.le_of_ble_eq_true rfl, Nat.le_of_ble_eq_true rfl⟩) (zPreV hPc hK hDc hG (ci := 8) (q0 := 0) rfl rfl) rfl rfl hl.1 rfl (lv_room (Nat.le_of_ble_eq_true rfl)) dX11_log_9 ⟨Nat.le_of_ble_eq_true rfl, Nat.le_of_ble_eq_true rfl⟩) hS (fun _ _ h => h.elim) (fun _ h => h.elim) (fun r2 u9 t9 H1 locs ht9 hvm hwr2 hB9 hz1 hk1 hS => ?_)
    replace hP := zKept hP hk1
    try clear hB9 hz1 hk1 hvm ht9 u9 hPc hDc
    generalize H1 = H at hP hS ⊢
    obtain rfl : r2 = 0 := hwr2.trans (by decide)
    refine lv_icmp_lt (tgt := 17) hx hb dX11_log_12 (by decide) (fun c9 => absurd c9 c1) (fun _ => ?_)
    refine lv_iconst (v := (-1)) hx hb dX11_log_15 (by decide) ?_
    exact W.iret (v := (-1)) hx hb hr (fun t ht hW => ⟨⟨(-1), (), rfl, (by unfold s_X11_log; rw [if_neg c1]), trivial⟩, hS.F ht⟩) hS.2.2 dX11_log_16

def s_X11_count (p0 : Int32) : Int32 := (if p0 = 0 then 0 else (if p0 = 1 then 0 else (if p0 = 2 then 0 else (if p0 = 3 then (-1) else (if p0 = 4 then 0 else (if p0 = 5 then 0 else (if p0 = 6 then 0 else (if p0 = 7 then 0 else (if p0 = 8 then 0 else (if p0 = 9 then 0 else (if p0 = 10 then 0 else (if p0 = 11 then 0 else (-1000000)))))))))))))
set_option maxHeartbeats 4000000 in
set_option maxRecDepth 100000 in
theorem c_X11_count (l : Launch) (dC : Nat → ClassId) (dI : Nat → Nat → Nat) (cI cZ : ClassId) (sz : Nat) (h0 : Nat) (h1 : Nat) (h3 : Nat) (h4 : Nat) (h5 : Nat) (h6 : Nat) (h7 : Nat) (h8 : Nat) (h9 : Nat) (h10 : Nat) (d1 : Value) (d2 : Value) (d6 : Value) (d7 : Value) (d8 : Value) (d10 : Value) (d13 : Value) (d14 : Value) (d15 : Value) (d16 : Value) (d17 : Value) (d19 : Value) (v0_2 : Value) (v0_3 : Value) (v0_4 : Value) (v1_0 : Value) (v1_1 : Value) (v1_2 : Value) (v1_3 : Value) (v2_0 : Value) (v2_2 : Value) (v3_0 : Value) (v3_1 : Value) (v3_2 : Value) (v3_5 : Value) (v3_6 : Value) (v3_7 : Value) (v3_8 : Value) (v4_0 : Value) (v4_1 : Value) (v4_2 : Value) (v5_0 : Value) (v5_1 : Value) (v5_2 : Value) (v6_0 : Value) (v6_1 : Value) (p0 : Int32) : Met l yX11_count wsX11_count ({ frames := 1, cells := 0, slots := 0, locals := 23 }) (va_Pc [.ref h0, .int p0] (zPre dC dI cI cZ sz [(h0, .inr (11, [.ref h4, d1, d2, .ref h3, .ref h1, .ref h5, d6, d7, d8, .ref h8, d10, .ref h6, .ref h7, d13, d14, d15, d16, d17, .int 0, d19])), (h1, .inr (1, [.int 0, .int 0, v0_2, v0_3, v0_4])), (h3, .inr (3, [v1_0, v1_1, v1_2, v1_3, .int 0, .int (-1)])), (h4, .inr (10, [v2_0, .int 0, v2_2])), (h5, .inr (8, [v3_0, v3_1, v3_2, .ref h9, .ref h10, v3_5, v3_6, v3_7, v3_8, .int 0])), (h6, .inr (6, [v4_0, v4_1, v4_2, .int 0])), (h7, .inr (6, [v5_0, v5_1, v5_2, .int 0])), (h8, .inr (0, [v6_0, v6_1, .int 0]))])) (va_Qi (fun (r : Int32) (_ : Unit) => r = s_X11_count p0) (fun (_ : Unit) _ => True) (fun _ => False)) 0 0 (fun _ => False) := by
  refine Met.ofW (cc := cX11_count) (maxL := 2) (ret := (some .int)) (by decide) rfl ?_
  intro p e s m args below meth c s₁ B hml hv
  obtain ⟨rfl, hsz, hP, hK, hD0, hG⟩ := hv
  have hx := B.exec
  have hb := B.bytes
  have hr := B.returns
  have hts := atoms_spec (ws := wsX11_count) B.pre
  have hown : s.vm.findClass RX11 = some m.cls := findClass_of_methodNamed B.named
  have hlocks := B.notSynchronized
  have hinX0 : ∀ w ∈ wsX00, w ∈ wsX11_count := by decide +kernel
  have hinX1 : ∀ w ∈ wsX10, w ∈ wsX11_count := by decide +kernel
  have hinX10 : ∀ w ∈ wsX100, w ∈ wsX11_count := by decide +kernel
  have hinX11 : ∀ w ∈ wsX110, w ∈ wsX11_count := by decide +kernel
  have hinX3 : ∀ w ∈ wsX30, w ∈ wsX11_count := by decide +kernel
  have hinX6 : ∀ w ∈ wsX60, w ∈ wsX11_count := by decide +kernel
  have hinX8 : ∀ w ∈ wsX80, w ∈ wsX11_count := by decide +kernel
  subst hsz
  have hS : va_S (fun _ : Nat => False) s.heap s.heap [] := va_S.rf
  have hP : va_P (dC, dI) vwCl [(h0, .inr (11, [.ref h4, d1, d2, .ref h3, .ref h1, .ref h5, d6, d7, d8, .ref h8, d10, .ref h6, .ref h7, d13, d14, d15, d16, d17, .int 0, d19])), (h1, .inr (1, [.int 0, .int 0, v0_2, v0_3, v0_4])), (h3, .inr (3, [v1_0, v1_1, v1_2, v1_3, .int 0, .int (-1)])), (h4, .inr (10, [v2_0, .int 0, v2_2])), (h5, .inr (8, [v3_0, v3_1, v3_2, .ref h9, .ref h10, v3_5, v3_6, v3_7, v3_8, .int 0])), (h6, .inr (6, [v4_0, v4_1, v4_2, .int 0])), (h7, .inr (6, [v5_0, v5_1, v5_2, .int 0])), (h8, .inr (0, [v6_0, v6_1, .int 0]))] s.heap := hP
  have hl := lv_entry ([.ref h0, .int p0]) (n := 2) (Nat.le_of_ble_eq_true rfl)
  rw [lg_entry_eq]
  generalize (lg_sl ([.ref h0, .int p0]) ++ List.replicate (2 - (lg_sl ([.ref h0, .int p0])).length) Slot.unset).toArray = ls at hl ⊢
  have hl : lv_has ls 2 [(0, .ref h0), (1, .int p0)] := hl
  refine lv_iload_n hx hb dX11_count_0 rfl (lv_at hl 1 rfl) ?_
  by_cases c1 : p0 = 0
  · skip
    refine lv_tableIn (tgt := 64) (off := 63) hx hb dX11_count_1 (by rw [c1]; decide) (by rw [c1]; decide) (by rw [c1]; rfl) (by decide) ?_
    refine lv_aload_n hx hb dX11_count_64 rfl (lv_at hl 0 rfl) ?_
    refine va_get (D := (dC, dI)) (ci := 11) (v := .ref h1) (C := RX11) (T := TX11) (N := 20) hx hb hts hinX11 hown hK hP 0 rfl rfl 4 (by decide) (hts (.fieldLink RX11 42 "DreamGuard" "fort" "LDreamGuard$Fort;") (by decide +kernel)) (fun _ h9 => h9) rfl dX11_count_65 ?_
    refine va_get (D := (dC, dI)) (ci := 1) (v := .int 0) (C := RX1) (T := TX1) (N := 5) hx hb hts hinX1 hown hK hP 1 rfl rfl 0 (by decide) (hts (.fieldLink RX11 153 "DreamGuard$Fort" "men" "I") (by decide +kernel)) (fun _ h9 => h9) rfl dX11_count_68 ?_
    exact W.iret (v := 0) hx hb hr (fun t ht hW => ⟨⟨0, (), rfl, (by unfold s_X11_count; rw [if_pos c1]), trivial⟩, hS.F ht⟩) hS.2.2 dX11_count_71
  by_cases c2 : p0 = 1
  · skip
    refine lv_tableIn (tgt := 72) (off := 71) hx hb dX11_count_1 (by rw [c2]; decide) (by rw [c2]; decide) (by rw [c2]; rfl) (by decide) ?_
    refine lv_aload_n hx hb dX11_count_72 rfl (lv_at hl 0 rfl) ?_
    refine va_get (D := (dC, dI)) (ci := 11) (v := .ref h3) (C := RX11) (T := TX11) (N := 20) hx hb hts hinX11 hown hK hP 0 rfl rfl 3 (by decide) (hts (.fieldLink RX11 35 "DreamGuard" "laws" "LDreamGuard$LawBook;") (by decide +kernel)) (fun _ h9 => h9) rfl dX11_count_73 ?_
    refine va_get (D := (dC, dI)) (ci := 3) (v := .int 0) (C := RX3) (T := TX3) (N := 6) hx hb hts hinX3 hown hK hP 2 rfl rfl 4 (by decide) (hts (.fieldLink RX11 156 "DreamGuard$LawBook" "count" "I") (by decide +kernel)) (fun _ h9 => h9) rfl dX11_count_76 ?_
    exact W.iret (v := 0) hx hb hr (fun t ht hW => ⟨⟨0, (), rfl, (by unfold s_X11_count; rw [if_neg c1, if_pos c2]), trivial⟩, hS.F ht⟩) hS.2.2 dX11_count_79
  by_cases c3 : p0 = 2
  · skip
    refine lv_tableIn (tgt := 80) (off := 79) hx hb dX11_count_1 (by rw [c3]; decide) (by rw [c3]; decide) (by rw [c3]; rfl) (by decide) ?_
    refine lv_aload_n hx hb dX11_count_80 rfl (lv_at hl 0 rfl) ?_
    refine va_get (D := (dC, dI)) (ci := 11) (v := .ref h4) (C := RX11) (T := TX11) (N := 20) hx hb hts hinX11 hown hK hP 0 rfl rfl 0 (by decide) (hts (.fieldLink RX11 10 "DreamGuard" "tape" "LDreamGuard$Tape;") (by decide +kernel)) (fun _ h9 => h9) rfl dX11_count_81 ?_
    refine va_get (D := (dC, dI)) (ci := 10) (v := .int 0) (C := RX10) (T := TX10) (N := 3) hx hb hts hinX10 hown hK hP 3 rfl rfl 1 (by decide) (hts (.fieldLink RX11 129 "DreamGuard$Tape" "length" "I") (by decide +kernel)) (fun _ h9 => h9) rfl dX11_count_84 ?_
    exact W.iret (v := 0) hx hb hr (fun t ht hW => ⟨⟨0, (), rfl, (by unfold s_X11_count; rw [if_neg c1, if_neg c2, if_pos c3]), trivial⟩, hS.F ht⟩) hS.2.2 dX11_count_87
  by_cases c4 : p0 = 3
  · skip
    refine lv_tableIn (tgt := 88) (off := 87) hx hb dX11_count_1 (by rw [c4]; decide) (by rw [c4]; decide) (by rw [c4]; rfl) (by decide) ?_
    refine lv_aload_n hx hb dX11_count_88 rfl (lv_at hl 0 rfl) ?_
    refine va_get (D := (dC, dI)) (ci := 11) (v := .ref h3) (C := RX11) (T := TX11) (N := 20) hx hb hts hinX11 hown hK hP 0 rfl rfl 3 (by decide) (hts (.fieldLink RX11 35 "DreamGuard" "laws" "LDreamGuard$LawBook;") (by decide +kernel)) (fun _ h9 => h9) rfl dX11_count_89 ?_
    refine va_get (D := (dC, dI)) (ci := 3) (v := .int (-1)) (C := RX3) (T := TX3) (N := 6) hx hb hts hinX3 hown hK hP 2 rfl rfl 5 (by decide) (hts (.fieldLink RX11 222 "DreamGuard$LawBook" "holding" "I") (by decide +kernel)) (fun _ h9 => h9) rfl dX11_count_92 ?_
    exact W.iret (v := (-1)) hx hb hr (fun t ht hW => ⟨⟨(-1), (), rfl, (by unfold s_X11_count; rw [if_neg c1, if_neg c2, if_neg c3, if_pos c4]), trivial⟩, hS.F ht⟩) hS.2.2 dX11_count_95
  by_cases c5 : p0 = 4
  · skip
    refine lv_tableIn (tgt := 96) (off := 95) hx hb dX11_count_1 (by rw [c5]; decide) (by rw [c5]; decide) (by rw [c5]; rfl) (by decide) ?_
    refine lv_aload_n hx hb dX11_count_96 rfl (lv_at hl 0 rfl) ?_
    refine va_get (D := (dC, dI)) (ci := 11) (v := .ref h5) (C := RX11) (T := TX11) (N := 20) hx hb hts hinX11 hown hK hP 0 rfl rfl 5 (by decide) (hts (.fieldLink RX11 49 "DreamGuard" "now" "LDreamGuard$State;") (by decide +kernel)) (fun _ h9 => h9) rfl dX11_count_97 ?_
    refine va_get (D := (dC, dI)) (ci := 8) (v := .int 0) (C := RX8) (T := TX8) (N := 10) hx hb hts hinX8 hown hK hP 4 rfl rfl 9 (by decide) (hts (.fieldLink RX11 238 "DreamGuard$State" "night" "I") (by decide +kernel)) (fun _ h9 => h9) rfl dX11_count_100 ?_
    exact W.iret (v := 0) hx hb hr (fun t ht hW => ⟨⟨0, (), rfl, (by unfold s_X11_count; rw [if_neg c1, if_neg c2, if_neg c3, if_neg c4, if_pos c5]), trivial⟩, hS.F ht⟩) hS.2.2 dX11_count_103
  by_cases c6 : p0 = 5
  · skip
    refine lv_tableIn (tgt := 104) (off := 103) hx hb dX11_count_1 (by rw [c6]; decide) (by rw [c6]; decide) (by rw [c6]; rfl) (by decide) ?_
    refine lv_aload_n hx hb dX11_count_104 rfl (lv_at hl 0 rfl) ?_
    refine lv_aload_n hx hb dX11_count_105 rfl (lv_at hl 0 rfl) ?_
    refine va_get (D := (dC, dI)) (ci := 11) (v := .ref h5) (C := RX11) (T := TX11) (N := 20) hx hb hts hinX11 hown hK hP 0 rfl rfl 5 (by decide) (hts (.fieldLink RX11 49 "DreamGuard" "now" "LDreamGuard$State;") (by decide +kernel)) (fun _ h9 => h9) rfl dX11_count_106 ?_
    refine va_get (D := (dC, dI)) (ci := 8) (v := .ref h9) (C := RX8) (T := TX8) (N := 10) hx hb hts hinX8 hown hK hP 4 rfl rfl 3 (by decide) (hts (.fieldLink RX11 213 "DreamGuard$State" "tired" "[I") (by decide +kernel)) (fun _ h9 => h9) rfl dX11_count_109 ?_
    have hPc := hP.sub (ws' := [(h0, .inr (11, [.ref h4, d1, d2, .ref h3, .ref h1, .ref h5, d6, d7, d8, .ref h8, d10, .ref h6, .ref h7, d13, d14, d15, d16, d17, .int 0, d19])), (h1, .inr (1, [.int 0, .int 0, v0_2, v0_3, v0_4]))]) [0, 1] rfl
    have hDc := hD0.sub (ws' := [(h0, .inr (11, [.ref h4, d1, d2, .ref h3, .ref h1, .ref h5, d6, d7, d8, .ref h8, d10, .ref h6, .ref h7, d13, d14, d15, d16, d17, .int 0, d19])), (h1, .inr (1, [.int 0, .int 0, v0_2, v0_3, v0_4]))]) [0, 1] (by decide) rfl
    refine va_calli (va_runV (As := [.ref h9]) (rest := []) ⟨hx, hb, hml, hown, hts⟩ (c_X11_sumOfMen l dC dI cI cZ s.heap.size h0 h1 h9 (.ref h4) d1 d2 (.ref h3) (.ref h5) d6 d7 d8 (.ref h8) d10 (.ref h6) (.ref h7) d13 d14 d15 d16 d17 (.int 0) d19 (.int 0) v0_2 v0_3 v0_4) (cwV 1 hts gX11_count_X11_sumOfMen rfl rfl rfl (by decide +kernel) ⟨Nat.le_of_ble_eq_true rfl, Nat.le_of_ble_eq_true rfl⟩) (zPreV hPc hK hDc hG (ci := 11) (q0 := 0) rfl rfl) rfl rfl hl.1 rfl (lv_room (Nat.le_of_ble_eq_true rfl)) dX11_count_112 ⟨Nat.le_of_ble_eq_true rfl, Nat.le_of_ble_eq_true rfl⟩) hS (fun _ _ h => h.elim) (fun _ h => h.elim) (fun r7 u9 t9 H1 locs ht9 hvm hwr7 hB9 hz1 hk1 hS => ?_)
    replace hP := zKept hP hk1
    try clear hB9 hz1 hk1 hvm ht9 u9 hPc hDc
    generalize H1 = H at hP hS ⊢
    obtain rfl : r7 = 0 := hwr7.trans rfl
    exact W.iret (v := 0) hx hb hr (fun t ht hW => ⟨⟨0, (), rfl, (by unfold s_X11_count; rw [if_neg c1, if_neg c2, if_neg c3, if_neg c4, if_neg c5, if_pos c6]), trivial⟩, hS.F ht⟩) hS.2.2 dX11_count_115
  by_cases c8 : p0 = 6
  · skip
    refine lv_tableIn (tgt := 116) (off := 115) hx hb dX11_count_1 (by rw [c8]; decide) (by rw [c8]; decide) (by rw [c8]; rfl) (by decide) ?_
    refine lv_aload_n hx hb dX11_count_116 rfl (lv_at hl 0 rfl) ?_
    refine lv_aload_n hx hb dX11_count_117 rfl (lv_at hl 0 rfl) ?_
    refine va_get (D := (dC, dI)) (ci := 11) (v := .ref h5) (C := RX11) (T := TX11) (N := 20) hx hb hts hinX11 hown hK hP 0 rfl rfl 5 (by decide) (hts (.fieldLink RX11 49 "DreamGuard" "now" "LDreamGuard$State;") (by decide +kernel)) (fun _ h9 => h9) rfl dX11_count_118 ?_
    refine va_get (D := (dC, dI)) (ci := 8) (v := .ref h10) (C := RX8) (T := TX8) (N := 10) hx hb hts hinX8 hown hK hP 4 rfl rfl 4 (by decide) (hts (.fieldLink RX11 216 "DreamGuard$State" "dreamt" "[I") (by decide +kernel)) (fun _ h9 => h9) rfl dX11_count_121 ?_
    have hPc := hP.sub (ws' := [(h0, .inr (11, [.ref h4, d1, d2, .ref h3, .ref h1, .ref h5, d6, d7, d8, .ref h8, d10, .ref h6, .ref h7, d13, d14, d15, d16, d17, .int 0, d19])), (h1, .inr (1, [.int 0, .int 0, v0_2, v0_3, v0_4]))]) [0, 1] rfl
    have hDc := hD0.sub (ws' := [(h0, .inr (11, [.ref h4, d1, d2, .ref h3, .ref h1, .ref h5, d6, d7, d8, .ref h8, d10, .ref h6, .ref h7, d13, d14, d15, d16, d17, .int 0, d19])), (h1, .inr (1, [.int 0, .int 0, v0_2, v0_3, v0_4]))]) [0, 1] (by decide) rfl
    refine va_calli (va_runV (As := [.ref h10]) (rest := []) ⟨hx, hb, hml, hown, hts⟩ (c_X11_sumOfMen l dC dI cI cZ s.heap.size h0 h1 h10 (.ref h4) d1 d2 (.ref h3) (.ref h5) d6 d7 d8 (.ref h8) d10 (.ref h6) (.ref h7) d13 d14 d15 d16 d17 (.int 0) d19 (.int 0) v0_2 v0_3 v0_4) (cwV 1 hts gX11_count_X11_sumOfMen rfl rfl rfl (by decide +kernel) ⟨Nat.le_of_ble_eq_true rfl, Nat.le_of_ble_eq_true rfl⟩) (zPreV hPc hK hDc hG (ci := 11) (q0 := 0) rfl rfl) rfl rfl hl.1 rfl (lv_room (Nat.le_of_ble_eq_true rfl)) dX11_count_124 ⟨Nat.le_of_ble_eq_true rfl, Nat.le_of_ble_eq_true rfl⟩) hS (fun _ _ h => h.elim) (fun _ h => h.elim) (fun r9 u9 t9 H1 locs ht9 hvm hwr9 hB9 hz1 hk1 hS => ?_)
    replace hP := zKept hP hk1
    try clear hB9 hz1 hk1 hvm ht9 u9 hPc hDc
    generalize H1 = H at hP hS ⊢
    obtain rfl : r9 = 0 := hwr9.trans rfl
    exact W.iret (v := 0) hx hb hr (fun t ht hW => ⟨⟨0, (), rfl, (by unfold s_X11_count; rw [if_neg c1, if_neg c2, if_neg c3, if_neg c4, if_neg c5, if_neg c6, if_pos c8]), trivial⟩, hS.F ht⟩) hS.2.2 dX11_count_127
  by_cases c10 : p0 = 7
  · skip
    refine lv_tableIn (tgt := 128) (off := 127) hx hb dX11_count_1 (by rw [c10]; decide) (by rw [c10]; decide) (by rw [c10]; rfl) (by decide) ?_
    refine lv_aload_n hx hb dX11_count_128 rfl (lv_at hl 0 rfl) ?_
    refine va_get (D := (dC, dI)) (ci := 11) (v := .int 0) (C := RX11) (T := TX11) (N := 20) hx hb hts hinX11 hown hK hP 0 rfl rfl 18 (by decide) (hts (.fieldLink RX11 117 "DreamGuard" "snowing" "I") (by decide +kernel)) (fun _ h9 => h9) rfl dX11_count_129 ?_
    exact W.iret (v := 0) hx hb hr (fun t ht hW => ⟨⟨0, (), rfl, (by unfold s_X11_count; rw [if_neg c1, if_neg c2, if_neg c3, if_neg c4, if_neg c5, if_neg c6, if_neg c8, if_pos c10]), trivial⟩, hS.F ht⟩) hS.2.2 dX11_count_132
  by_cases c11 : p0 = 8
  · skip
    refine lv_tableIn (tgt := 133) (off := 132) hx hb dX11_count_1 (by rw [c11]; decide) (by rw [c11]; decide) (by rw [c11]; rfl) (by decide) ?_
    refine lv_aload_n hx hb dX11_count_133 rfl (lv_at hl 0 rfl) ?_
    refine va_get (D := (dC, dI)) (ci := 11) (v := .ref h6) (C := RX11) (T := TX11) (N := 20) hx hb hts hinX11 hown hK hP 0 rfl rfl 11 (by decide) (hts (.fieldLink RX11 82 "DreamGuard" "sightings" "LDreamGuard$Notes;") (by decide +kernel)) (fun _ h9 => h9) rfl dX11_count_134 ?_
    refine va_get (D := (dC, dI)) (ci := 6) (v := .int 0) (C := RX6) (T := TX6) (N := 4) hx hb hts hinX6 hown hK hP 5 rfl rfl 3 (by decide) (hts (.fieldLink RX11 177 "DreamGuard$Notes" "count" "I") (by decide +kernel)) (fun _ h9 => h9) rfl dX11_count_137 ?_
    exact W.iret (v := 0) hx hb hr (fun t ht hW => ⟨⟨0, (), rfl, (by unfold s_X11_count; rw [if_neg c1, if_neg c2, if_neg c3, if_neg c4, if_neg c5, if_neg c6, if_neg c8, if_neg c10, if_pos c11]), trivial⟩, hS.F ht⟩) hS.2.2 dX11_count_140
  by_cases c12 : p0 = 9
  · skip
    refine lv_tableIn (tgt := 141) (off := 140) hx hb dX11_count_1 (by rw [c12]; decide) (by rw [c12]; decide) (by rw [c12]; rfl) (by decide) ?_
    refine lv_aload_n hx hb dX11_count_141 rfl (lv_at hl 0 rfl) ?_
    refine va_get (D := (dC, dI)) (ci := 11) (v := .ref h7) (C := RX11) (T := TX11) (N := 20) hx hb hts hinX11 hown hK hP 0 rfl rfl 12 (by decide) (hts (.fieldLink RX11 86 "DreamGuard" "sayings" "LDreamGuard$Notes;") (by decide +kernel)) (fun _ h9 => h9) rfl dX11_count_142 ?_
    refine va_get (D := (dC, dI)) (ci := 6) (v := .int 0) (C := RX6) (T := TX6) (N := 4) hx hb hts hinX6 hown hK hP 6 rfl rfl 3 (by decide) (hts (.fieldLink RX11 177 "DreamGuard$Notes" "count" "I") (by decide +kernel)) (fun _ h9 => h9) rfl dX11_count_145 ?_
    exact W.iret (v := 0) hx hb hr (fun t ht hW => ⟨⟨0, (), rfl, (by unfold s_X11_count; rw [if_neg c1, if_neg c2, if_neg c3, if_neg c4, if_neg c5, if_neg c6, if_neg c8, if_neg c10, if_neg c11, if_pos c12]), trivial⟩, hS.F ht⟩) hS.2.2 dX11_count_148
  by_cases c13 : p0 = 10
  · skip
    refine lv_tableIn (tgt := 149) (off := 148) hx hb dX11_count_1 (by rw [c13]; decide) (by rw [c13]; decide) (by rw [c13]; rfl) (by decide) ?_
    refine lv_aload_n hx hb dX11_count_149 rfl (lv_at hl 0 rfl) ?_
    refine va_get (D := (dC, dI)) (ci := 11) (v := .ref h5) (C := RX11) (T := TX11) (N := 20) hx hb hts hinX11 hown hK hP 0 rfl rfl 5 (by decide) (hts (.fieldLink RX11 49 "DreamGuard" "now" "LDreamGuard$State;") (by decide +kernel)) (fun _ h9 => h9) rfl dX11_count_150 ?_
    have hPc := hP.sub (ws' := [(h5, .inr (8, [v3_0, v3_1, v3_2, .ref h9, .ref h10, v3_5, v3_6, v3_7, v3_8, .int 0]))]) [4] rfl
    have hDc := hD0.sub (ws' := [(h5, .inr (8, [v3_0, v3_1, v3_2, .ref h9, .ref h10, v3_5, v3_6, v3_7, v3_8, .int 0]))]) [4] (by decide) rfl
    refine va_calli (va_runV (As := []) (rest := []) ⟨hx, hb, hml, hown, hts⟩ (c_X8_logLength l dC dI cI cZ s.heap.size h5 0 v3_0 v3_1 v3_2 (.ref h9) (.ref h10) v3_5 v3_6 v3_7 v3_8) (cwV 0 hts gX11_count_X8_logLength rfl rfl rfl (by decide +kernel) ⟨Nat.le_of_ble_eq_true rfl, Nat.le_of_ble_eq_true rfl⟩) (zPreV hPc hK hDc hG (ci := 8) (q0 := 0) rfl rfl) rfl rfl hl.1 rfl (lv_room (Nat.le_of_ble_eq_true rfl)) dX11_count_153 ⟨Nat.le_of_ble_eq_true rfl, Nat.le_of_ble_eq_true rfl⟩) hS (fun _ _ h => h.elim) (fun _ h => h.elim) (fun r14 u9 t9 H1 locs ht9 hvm hwr14 hB9 hz1 hk1 hS => ?_)
    replace hP := zKept hP hk1
    try clear hB9 hz1 hk1 hvm ht9 u9 hPc hDc
    generalize H1 = H at hP hS ⊢
    obtain rfl : r14 = 0 := hwr14.trans (by decide)
    exact W.iret (v := 0) hx hb hr (fun t ht hW => ⟨⟨0, (), rfl, (by unfold s_X11_count; rw [if_neg c1, if_neg c2, if_neg c3, if_neg c4, if_neg c5, if_neg c6, if_neg c8, if_neg c10, if_neg c11, if_neg c12, if_pos c13]), trivial⟩, hS.F ht⟩) hS.2.2 dX11_count_156
  by_cases c15 : p0 = 11
  · skip
    refine lv_tableIn (tgt := 157) (off := 156) hx hb dX11_count_1 (by rw [c15]; decide) (by rw [c15]; decide) (by rw [c15]; rfl) (by decide) ?_
    refine lv_aload_n hx hb dX11_count_157 rfl (lv_at hl 0 rfl) ?_
    refine va_get (D := (dC, dI)) (ci := 11) (v := .ref h8) (C := RX11) (T := TX11) (N := 20) hx hb hts hinX11 hown hK hP 0 rfl rfl 9 (by decide) (hts (.fieldLink RX11 66 "DreamGuard" "acts" "LDreamGuard$Acts;") (by decide +kernel)) (fun _ h9 => h9) rfl dX11_count_158 ?_
    refine va_get (D := (dC, dI)) (ci := 0) (v := .int 0) (C := RX0) (T := TX0) (N := 3) hx hb hts hinX0 hown hK hP 7 rfl rfl 2 (by decide) (hts (.fieldLink RX11 176 "DreamGuard$Acts" "count" "I") (by decide +kernel)) (fun _ h9 => h9) rfl dX11_count_161 ?_
    exact W.iret (v := 0) hx hb hr (fun t ht hW => ⟨⟨0, (), rfl, (by unfold s_X11_count; rw [if_neg c1, if_neg c2, if_neg c3, if_neg c4, if_neg c5, if_neg c6, if_neg c8, if_neg c10, if_neg c11, if_neg c12, if_neg c13, if_pos c15]), trivial⟩, hS.F ht⟩) hS.2.2 dX11_count_164
  refine lv_tableOut (tgt := 165) hx hb dX11_count_1 (zSwOut12 c1 c2 c3 c4 c5 c6 c8 c10 c11 c12 c13 c15) (by decide) ?_
  refine lv_ldcw (own := RX11) (v := (-1000000)) hx hb hown (hts (.constant RX11 276 (-1000000)) (by decide +kernel)) dX11_count_165 ?_
  exact W.iret (v := (-1000000)) hx hb hr (fun t ht hW => ⟨⟨(-1000000), (), rfl, (by unfold s_X11_count; rw [if_neg c1, if_neg c2, if_neg c3, if_neg c4, if_neg c5, if_neg c6, if_neg c8, if_neg c10, if_neg c11, if_neg c12, if_neg c13, if_neg c15]), trivial⟩, hS.F ht⟩) hS.2.2 dX11_count_168

def s_X11_fault (p0 : Int32) : Int32 := (if p0 = 0 then 0 else (if p0 = 1 then 0 else (-2)))
set_option maxHeartbeats 4000000 in
set_option maxRecDepth 100000 in
theorem c_X11_fault (l : Launch) (dC : Nat → ClassId) (dI : Nat → Nat → Nat) (cI cZ : ClassId) (sz : Nat) (tR : Nat) (h0 : Nat) (h3 : Nat) (h4 : Nat) (h5 : Nat) (h6 : Nat) (d3 : Value) (d4 : Value) (d5 : Value) (d6 : Value) (d7 : Value) (d8 : Value) (d9 : Value) (d10 : Value) (d11 : Value) (d12 : Value) (d13 : Value) (d14 : Value) (d15 : Value) (d16 : Value) (d17 : Value) (d18 : Value) (d19 : Value) (v0_0 : Value) (v0_2 : Value) (v1_2 : Value) (v1_3 : Value) (v1_4 : Value) (v1_5 : Value) (v3_1 : Value) (v3_2 : Value) (p0 : Int32) : Met l yX11_fault wsX11_fault ({ frames := 4, cells := 0, slots := 0, locals := 84 }) (va_Pc [.ref h0, .int p0] (zPreT dC dI cI cZ sz [(h0, .inr (11, [.ref h3, .ref h4, .ref h6, d3, d4, d5, d6, d7, d8, d9, d10, d11, d12, d13, d14, d15, d16, d17, d18, d19])), (h3, .inr (10, [v0_0, .int 0, v0_2])), (h4, .inr (2, [.ref h3, .ref h5, v1_2, v1_3, v1_4, v1_5])), (h5, .inl (cI, 4, .inl (fun _ => 0))), (h6, .inr (4, [.ref h3, v3_1, v3_2]))] tR)) (va_Qi (fun (r : Int32) (_ : Unit) => r = s_X11_fault p0) (fun (_ : Unit) _ => True) (va_A [(h0, .inr (11, [.ref h3, .ref h4, .ref h6, d3, d4, d5, d6, d7, d8, d9, d10, d11, d12, d13, d14, d15, d16, d17, d18, d19])), (h3, .inr (10, [v0_0, .int 0, v0_2])), (h4, .inr (2, [.ref h3, .ref h5, v1_2, v1_3, v1_4, v1_5])), (h5, .inl (cI, 4, .inl (fun _ => 0))), (h6, .inr (4, [.ref h3, v3_1, v3_2]))] sz)) 0 0 (va_A [(h0, .inr (11, [.ref h3, .ref h4, .ref h6, d3, d4, d5, d6, d7, d8, d9, d10, d11, d12, d13, d14, d15, d16, d17, d18, d19])), (h3, .inr (10, [v0_0, .int 0, v0_2])), (h4, .inr (2, [.ref h3, .ref h5, v1_2, v1_3, v1_4, v1_5])), (h5, .inl (cI, 4, .inl (fun _ => 0))), (h6, .inr (4, [.ref h3, v3_1, v3_2]))] sz) := by
  refine Met.ofW (cc := cX11_fault) (maxL := 3) (ret := (some .int)) (by decide) rfl ?_
  intro p e s m args below meth c s₁ B hml hv
  obtain ⟨rfl, ⟨hsz, hP, hK, hD0, hG⟩, hSt⟩ := hv
  have hx := B.exec
  have hb := B.bytes
  have hr := B.returns
  have hts := atoms_spec (ws := wsX11_fault) B.pre
  have hown : s.vm.findClass RX11 = some m.cls := findClass_of_methodNamed B.named
  have hlocks := B.notSynchronized
  have hinX10 : ∀ w ∈ wsX100, w ∈ wsX11_fault := by decide +kernel
  have hinX11 : ∀ w ∈ wsX110, w ∈ wsX11_fault := by decide +kernel
  subst hsz
  have hD := hD0.self (sz := s.heap.size)
  generalize hAe : va_A [(h0, .inr (11, [.ref h3, .ref h4, .ref h6, d3, d4, d5, d6, d7, d8, d9, d10, d11, d12, d13, d14, d15, d16, d17, d18, d19])), (h3, .inr (10, [v0_0, .int 0, v0_2])), (h4, .inr (2, [.ref h3, .ref h5, v1_2, v1_3, v1_4, v1_5])), (h5, .inl (cI, 4, .inl (fun _ => 0))), (h6, .inr (4, [.ref h3, v3_1, v3_2]))] s.heap.size = A at hD hSt ⊢
  have hA : ∀ q : Nat, s.heap.size ≤ q → A q := fun q h => by rw [← hAe]; exact Or.inr h
  have hS : va_S A s.heap s.heap [] := va_S.rf
  have hP : va_P (dC, dI) vwCl [(h0, .inr (11, [.ref h3, .ref h4, .ref h6, d3, d4, d5, d6, d7, d8, d9, d10, d11, d12, d13, d14, d15, d16, d17, d18, d19])), (h3, .inr (10, [v0_0, .int 0, v0_2])), (h4, .inr (2, [.ref h3, .ref h5, v1_2, v1_3, v1_4, v1_5])), (h5, .inl (cI, 4, .inl (fun _ => 0))), (h6, .inr (4, [.ref h3, v3_1, v3_2]))] s.heap := hP
  have hl := lv_entry ([.ref h0, .int p0]) (n := 3) (Nat.le_of_ble_eq_true rfl)
  rw [lg_entry_eq]
  generalize (lg_sl ([.ref h0, .int p0]) ++ List.replicate (3 - (lg_sl ([.ref h0, .int p0])).length) Slot.unset).toArray = ls at hl ⊢
  have hl : lv_has ls 3 [(0, .ref h0), (1, .int p0)] := hl
  refine lv_iload_n hx hb dX11_fault_0 rfl (lv_at hl 1 rfl) ?_
  refine lv_if_eq (tgt := 12) hx hb dX11_fault_1 (by decide) (fun c1 => ?_) (fun c1 => ?_)
  · skip
    refine lv_iload_n hx hb dX11_fault_12 rfl (lv_at hl 1 rfl) ?_
    refine lv_if_ne (tgt := 26) hx hb dX11_fault_13 (by decide) (fun c9 => absurd c1 c9) (fun _ => ?_)
    refine lv_aload_n hx hb dX11_fault_16 rfl (lv_at hl 0 rfl) ?_
    refine va_get (D := (dC, dI)) (ci := 11) (v := .ref h4) (C := RX11) (T := TX11) (N := 20) hx hb hts hinX11 hown hK hP 0 rfl rfl 1 (by decide) (hts (.fieldLink RX11 21 "DreamGuard" "fortReader" "LDreamGuard$FortReader;") (by decide +kernel)) (fun _ h9 => h9) rfl dX11_fault_17 ?_
    have hPc := hP.sub (ws' := [(h4, .inr (2, [.ref h3, .ref h5, v1_2, v1_3, v1_4, v1_5])), (h3, .inr (10, [v0_0, .int 0, v0_2])), (h5, .inl (cI, 4, .inl (fun _ => 0)))]) [2, 1, 3] rfl
    have hDc := hD.sub (ws' := [(h4, .inr (2, [.ref h3, .ref h5, v1_2, v1_3, v1_4, v1_5])), (h3, .inr (10, [v0_0, .int 0, v0_2])), (h5, .inl (cI, 4, .inl (fun _ => 0)))]) [2, 1, 3] (by decide) rfl
    have hFc := va_free (wc := [(h4, .inr (2, [.ref h3, .ref h5, v1_2, v1_3, v1_4, v1_5])), (h3, .inr (10, [v0_0, .int 0, v0_2])), (h5, .inl (cI, 4, .inl (fun _ => 0)))]) hD hS hA [2, 1, 3] rfl
    refine va_calli (va_runV (As := []) (rest := []) ⟨hx, hb, hml, hown, hts⟩ (c_X2_readFort l dC dI cI cZ s.heap.size tR h4 h3 h5 v1_2 v1_3 v1_4 v1_5 v0_0 v0_2) (cwV 0 hts gX11_fault_X2_readFort rfl rfl rfl (by decide +kernel) ⟨Nat.le_of_ble_eq_true rfl, Nat.le_of_ble_eq_true rfl⟩) (zPreVT hSt hS hFc hPc hK hDc hG (ci := 2) (q0 := 0) rfl rfl) rfl rfl hl.1 rfl (lv_room (Nat.le_of_ble_eq_true rfl)) dX11_fault_20 ⟨Nat.le_of_ble_eq_true rfl, Nat.le_of_ble_eq_true rfl⟩) hS (fun q _ h => hFc q h) hFc (fun r2 u9 t9 H1 locs ht9 hvm hwr2 hB9 hz1 hk1 hS => ?_)
    obtain ⟨hP1, hD1⟩ := hB9
    rw [ht9] at hP1
    obtain ⟨hP, hD⟩ := va_join (wr := [(h0, .inr (11, [.ref h3, .ref h4, .ref h6, d3, d4, d5, d6, d7, d8, d9, d10, d11, d12, d13, d14, d15, d16, d17, d18, d19])), (h6, .inr (4, [.ref h3, v3_1, v3_2]))]) (w1 := [(h4, .inr (2, [.ref h3, .ref h5, v1_2, v1_3, .int 0, .int 0])), (h3, .inr (10, [v0_0, .int 0, .int 0]))]) hP hD [2, 1, 3] [0, 4] rfl rfl (by decide) (by decide) hk1 hFc hP1 hD1
    try clear hz1 hk1 hvm ht9 u9 hPc hDc hFc hP1 hD1
    generalize H1 = H at hP hS ⊢
    have hP : va_P (dC, dI) vwCl [(h0, .inr (11, [.ref h3, .ref h4, .ref h6, d3, d4, d5, d6, d7, d8, d9, d10, d11, d12, d13, d14, d15, d16, d17, d18, d19])), (h6, .inr (4, [.ref h3, v3_1, v3_2])), (h4, .inr (2, [.ref h3, .ref h5, v1_2, v1_3, .int 0, .int 0])), (h3, .inr (10, [v0_0, .int 0, .int 0]))] H := hP
    have hD : va_D A [(h0, .inr (11, [.ref h3, .ref h4, .ref h6, d3, d4, d5, d6, d7, d8, d9, d10, d11, d12, d13, d14, d15, d16, d17, d18, d19])), (h6, .inr (4, [.ref h3, v3_1, v3_2])), (h4, .inr (2, [.ref h3, .ref h5, v1_2, v1_3, .int 0, .int 0])), (h3, .inr (10, [v0_0, .int 0, .int 0]))] := hD
    obtain rfl : r2 = 0 := hwr2.trans rfl
    refine lv_goto (tgt := 33) hx hb dX11_fault_23 (by decide) ?_
    refine lv_istore_n (lv' := [(2, .int 0), (0, .ref h0), (1, .int p0)]) hx hb dX11_fault_33 rfl hl (by decide) rfl (fun ls hl => ?_)
    refine lv_iload_n hx hb dX11_fault_34 rfl (lv_at hl 0 rfl) ?_
    refine lv_if_eq (tgt := 42) hx hb dX11_fault_35 (by decide) (fun _ => ?_) (fun c9 => absurd (by decide) c9)
    refine lv_aload_n hx hb dX11_fault_42 rfl (lv_at hl 1 rfl) ?_
    refine va_get (D := (dC, dI)) (ci := 11) (v := .ref h3) (C := RX11) (T := TX11) (N := 20) hx hb hts hinX11 hown hK hP 0 rfl rfl 0 (by decide) (hts (.fieldLink RX11 10 "DreamGuard" "tape" "LDreamGuard$Tape;") (by decide +kernel)) (fun _ h9 => h9) rfl dX11_fault_43 ?_
    refine va_get (D := (dC, dI)) (ci := 10) (v := .int 0) (C := RX10) (T := TX10) (N := 3) hx hb hts hinX10 hown hK hP 3 rfl rfl 2 (by decide) (hts (.fieldLink RX11 143 "DreamGuard$Tape" "position" "I") (by decide +kernel)) (fun _ h9 => h9) rfl dX11_fault_46 ?_
    exact W.iret (v := 0) hx hb hr (fun t ht hW => ⟨⟨0, (), rfl, (by unfold s_X11_fault; rw [if_pos c1]), trivial⟩, hS.F ht⟩) hS.2.2 dX11_fault_49
  · skip
    refine lv_iload_n hx hb dX11_fault_4 rfl (lv_at hl 1 rfl) ?_
    refine lv_iconst (v := 1) hx hb dX11_fault_5 (by decide) ?_
    refine lv_icmp_eq (tgt := 12) hx hb dX11_fault_6 (by decide) (fun c3 => ?_) (fun c3 => ?_)
    · skip
      refine lv_iload_n hx hb dX11_fault_12 rfl (lv_at hl 1 rfl) ?_
      refine lv_if_ne (tgt := 26) hx hb dX11_fault_13 (by decide) (fun _ => ?_) (fun c9 => absurd c9 (fun h => absurd (c3.symm.trans h) (by decide)))
      refine lv_aload_n hx hb dX11_fault_26 rfl (lv_at hl 0 rfl) ?_
      refine va_get (D := (dC, dI)) (ci := 11) (v := .ref h6) (C := RX11) (T := TX11) (N := 20) hx hb hts hinX11 hown hK hP 0 rfl rfl 2 (by decide) (hts (.fieldLink RX11 28 "DreamGuard" "lawReader" "LDreamGuard$LawReader;") (by decide +kernel)) (fun _ h9 => h9) rfl dX11_fault_27 ?_
      have hPc := hP.sub (ws' := [(h6, .inr (4, [.ref h3, v3_1, v3_2])), (h3, .inr (10, [v0_0, .int 0, v0_2]))]) [4, 1] rfl
      have hDc := hD.sub (ws' := [(h6, .inr (4, [.ref h3, v3_1, v3_2])), (h3, .inr (10, [v0_0, .int 0, v0_2]))]) [4, 1] (by decide) rfl
      have hFc := va_free (wc := [(h6, .inr (4, [.ref h3, v3_1, v3_2])), (h3, .inr (10, [v0_0, .int 0, v0_2]))]) hD hS hA [4, 1] rfl
      refine va_calli (va_runV (As := []) (rest := []) ⟨hx, hb, hml, hown, hts⟩ (c_X4_readLaw l dC dI cI cZ s.heap.size h6 h3 v3_1 v3_2 v0_0 v0_2) (cwV 0 hts gX11_fault_X4_readLaw rfl rfl rfl (by decide +kernel) ⟨Nat.le_of_ble_eq_true rfl, Nat.le_of_ble_eq_true rfl⟩) (zPreV hPc hK hDc hG (ci := 4) (q0 := 0) rfl rfl) rfl rfl hl.1 rfl (lv_room (Nat.le_of_ble_eq_true rfl)) dX11_fault_30 ⟨Nat.le_of_ble_eq_true rfl, Nat.le_of_ble_eq_true rfl⟩) hS (fun q _ h => hFc q h) hFc (fun r4 u9 t9 H1 locs ht9 hvm hwr4 hB9 hz1 hk1 hS => ?_)
      obtain ⟨hP1, hD1⟩ := hB9
      rw [ht9] at hP1
      obtain ⟨hP, hD⟩ := va_join (wr := [(h0, .inr (11, [.ref h3, .ref h4, .ref h6, d3, d4, d5, d6, d7, d8, d9, d10, d11, d12, d13, d14, d15, d16, d17, d18, d19])), (h4, .inr (2, [.ref h3, .ref h5, v1_2, v1_3, v1_4, v1_5])), (h5, .inl (cI, 4, .inl (fun _ => 0)))]) (w1 := [(h6, .inr (4, [.ref h3, v3_1, .int 0])), (h3, .inr (10, [v0_0, .int 0, .int 0]))]) hP hD [4, 1] [0, 2, 3] rfl rfl (by decide) (by decide) hk1 hFc hP1 hD1
      try clear hz1 hk1 hvm ht9 u9 hPc hDc hFc hP1 hD1
      generalize H1 = H at hP hS ⊢
      have hP : va_P (dC, dI) vwCl [(h0, .inr (11, [.ref h3, .ref h4, .ref h6, d3, d4, d5, d6, d7, d8, d9, d10, d11, d12, d13, d14, d15, d16, d17, d18, d19])), (h4, .inr (2, [.ref h3, .ref h5, v1_2, v1_3, v1_4, v1_5])), (h5, .inl (cI, 4, .inl (fun _ => 0))), (h6, .inr (4, [.ref h3, v3_1, .int 0])), (h3, .inr (10, [v0_0, .int 0, .int 0]))] H := hP
      have hD : va_D A [(h0, .inr (11, [.ref h3, .ref h4, .ref h6, d3, d4, d5, d6, d7, d8, d9, d10, d11, d12, d13, d14, d15, d16, d17, d18, d19])), (h4, .inr (2, [.ref h3, .ref h5, v1_2, v1_3, v1_4, v1_5])), (h5, .inl (cI, 4, .inl (fun _ => 0))), (h6, .inr (4, [.ref h3, v3_1, .int 0])), (h3, .inr (10, [v0_0, .int 0, .int 0]))] := hD
      obtain rfl : r4 = 0 := hwr4.trans rfl
      refine lv_istore_n (lv' := [(2, .int 0), (0, .ref h0), (1, .int p0)]) hx hb dX11_fault_33 rfl hl (by decide) rfl (fun ls hl => ?_)
      refine lv_iload_n hx hb dX11_fault_34 rfl (lv_at hl 0 rfl) ?_
      refine lv_if_eq (tgt := 42) hx hb dX11_fault_35 (by decide) (fun _ => ?_) (fun c9 => absurd (by decide) c9)
      refine lv_aload_n hx hb dX11_fault_42 rfl (lv_at hl 1 rfl) ?_
      refine va_get (D := (dC, dI)) (ci := 11) (v := .ref h3) (C := RX11) (T := TX11) (N := 20) hx hb hts hinX11 hown hK hP 0 rfl rfl 0 (by decide) (hts (.fieldLink RX11 10 "DreamGuard" "tape" "LDreamGuard$Tape;") (by decide +kernel)) (fun _ h9 => h9) rfl dX11_fault_43 ?_
      refine va_get (D := (dC, dI)) (ci := 10) (v := .int 0) (C := RX10) (T := TX10) (N := 3) hx hb hts hinX10 hown hK hP 4 rfl rfl 2 (by decide) (hts (.fieldLink RX11 143 "DreamGuard$Tape" "position" "I") (by decide +kernel)) (fun _ h9 => h9) rfl dX11_fault_46 ?_
      exact W.iret (v := 0) hx hb hr (fun t ht hW => ⟨⟨0, (), rfl, (by unfold s_X11_fault; rw [if_neg c1, if_pos c3]), trivial⟩, hS.F ht⟩) hS.2.2 dX11_fault_49
    · skip
      refine lv_bipush (v := (-2)) hx hb dX11_fault_9 (by decide) ?_
      exact W.iret (v := (-2)) hx hb hr (fun t ht hW => ⟨⟨(-2), (), rfl, (by unfold s_X11_fault; rw [if_neg c1, if_neg c3]), trivial⟩, hS.F ht⟩) hS.2.2 dX11_fault_11

def s_X11_text (p0 : Int32) : Int32 := (if p0 = 0 then (-1) else (if p0 = 1 then (-1) else (-1)))
set_option maxHeartbeats 4000000 in
set_option maxRecDepth 100000 in
theorem c_X11_text (l : Launch) (dC : Nat → ClassId) (dI : Nat → Nat → Nat) (cI cZ : ClassId) (sz : Nat) (tR : Nat) (h0 : Nat) (h3 : Nat) (h4 : Nat) (h5 : Nat) (h6 : Nat) (h7 : Nat) (d4 : Value) (d5 : Value) (d6 : Value) (d7 : Value) (d8 : Value) (d9 : Value) (d10 : Value) (d11 : Value) (d12 : Value) (d13 : Value) (d14 : Value) (d15 : Value) (d16 : Value) (d17 : Value) (d18 : Value) (d19 : Value) (v0_0 : Value) (v0_2 : Value) (v1_2 : Value) (v1_3 : Value) (v1_4 : Value) (v1_5 : Value) (v3_1 : Value) (v3_2 : Value) (v4_0 : Value) (v4_1 : Value) (v4_2 : Value) (v4_3 : Value) (v4_5 : Value) (p0 : Int32) : Met l yX11_text wsX11_text ({ frames := 4, cells := 0, slots := 0, locals := 84 }) (va_Pc [.ref h0, .int p0] (zPreT dC dI cI cZ sz [(h0, .inr (11, [.ref h3, .ref h4, .ref h6, .ref h7, d4, d5, d6, d7, d8, d9, d10, d11, d12, d13, d14, d15, d16, d17, d18, d19])), (h3, .inr (10, [v0_0, .int 0, v0_2])), (h4, .inr (2, [.ref h3, .ref h5, v1_2, v1_3, v1_4, v1_5])), (h5, .inl (cI, 4, .inl (fun _ => 0))), (h6, .inr (4, [.ref h3, v3_1, v3_2])), (h7, .inr (3, [v4_0, v4_1, v4_2, v4_3, .int 0, v4_5]))] tR)) (va_Qi (fun (r : Int32) (_ : Unit) => r = s_X11_text p0) (fun (_ : Unit) _ => True) (va_A [(h0, .inr (11, [.ref h3, .ref h4, .ref h6, .ref h7, d4, d5, d6, d7, d8, d9, d10, d11, d12, d13, d14, d15, d16, d17, d18, d19])), (h3, .inr (10, [v0_0, .int 0, v0_2])), (h4, .inr (2, [.ref h3, .ref h5, v1_2, v1_3, v1_4, v1_5])), (h5, .inl (cI, 4, .inl (fun _ => 0))), (h6, .inr (4, [.ref h3, v3_1, v3_2])), (h7, .inr (3, [v4_0, v4_1, v4_2, v4_3, .int 0, v4_5]))] sz)) 0 0 (va_A [(h0, .inr (11, [.ref h3, .ref h4, .ref h6, .ref h7, d4, d5, d6, d7, d8, d9, d10, d11, d12, d13, d14, d15, d16, d17, d18, d19])), (h3, .inr (10, [v0_0, .int 0, v0_2])), (h4, .inr (2, [.ref h3, .ref h5, v1_2, v1_3, v1_4, v1_5])), (h5, .inl (cI, 4, .inl (fun _ => 0))), (h6, .inr (4, [.ref h3, v3_1, v3_2])), (h7, .inr (3, [v4_0, v4_1, v4_2, v4_3, .int 0, v4_5]))] sz) := by
  refine Met.ofW (cc := cX11_text) (maxL := 2) (ret := (some .int)) (by decide) rfl ?_
  intro p e s m args below meth c s₁ B hml hv
  obtain ⟨rfl, ⟨hsz, hP, hK, hD0, hG⟩, hSt⟩ := hv
  have hx := B.exec
  have hb := B.bytes
  have hr := B.returns
  have hts := atoms_spec (ws := wsX11_text) B.pre
  have hown : s.vm.findClass RX11 = some m.cls := findClass_of_methodNamed B.named
  have hlocks := B.notSynchronized
  have hinX11 : ∀ w ∈ wsX110, w ∈ wsX11_text := by decide +kernel
  have hinX3 : ∀ w ∈ wsX30, w ∈ wsX11_text := by decide +kernel
  subst hsz
  have hD := hD0.self (sz := s.heap.size)
  generalize hAe : va_A [(h0, .inr (11, [.ref h3, .ref h4, .ref h6, .ref h7, d4, d5, d6, d7, d8, d9, d10, d11, d12, d13, d14, d15, d16, d17, d18, d19])), (h3, .inr (10, [v0_0, .int 0, v0_2])), (h4, .inr (2, [.ref h3, .ref h5, v1_2, v1_3, v1_4, v1_5])), (h5, .inl (cI, 4, .inl (fun _ => 0))), (h6, .inr (4, [.ref h3, v3_1, v3_2])), (h7, .inr (3, [v4_0, v4_1, v4_2, v4_3, .int 0, v4_5]))] s.heap.size = A at hD hSt ⊢
  have hA : ∀ q : Nat, s.heap.size ≤ q → A q := fun q h => by rw [← hAe]; exact Or.inr h
  have hS : va_S A s.heap s.heap [] := va_S.rf
  have hP : va_P (dC, dI) vwCl [(h0, .inr (11, [.ref h3, .ref h4, .ref h6, .ref h7, d4, d5, d6, d7, d8, d9, d10, d11, d12, d13, d14, d15, d16, d17, d18, d19])), (h3, .inr (10, [v0_0, .int 0, v0_2])), (h4, .inr (2, [.ref h3, .ref h5, v1_2, v1_3, v1_4, v1_5])), (h5, .inl (cI, 4, .inl (fun _ => 0))), (h6, .inr (4, [.ref h3, v3_1, v3_2])), (h7, .inr (3, [v4_0, v4_1, v4_2, v4_3, .int 0, v4_5]))] s.heap := hP
  have hl := lv_entry ([.ref h0, .int p0]) (n := 2) (Nat.le_of_ble_eq_true rfl)
  rw [lg_entry_eq]
  generalize (lg_sl ([.ref h0, .int p0]) ++ List.replicate (2 - (lg_sl ([.ref h0, .int p0])).length) Slot.unset).toArray = ls at hl ⊢
  have hl : lv_has ls 2 [(0, .ref h0), (1, .int p0)] := hl
  refine lv_iload_n hx hb dX11_text_0 rfl (lv_at hl 1 rfl) ?_
  refine lv_if_ne (tgt := 45) hx hb dX11_text_1 (by decide) (fun c1 => ?_) (fun c1 => ?_)
  · skip
    refine lv_iload_n hx hb dX11_text_45 rfl (lv_at hl 1 rfl) ?_
    refine lv_iconst (v := 1) hx hb dX11_text_46 (by decide) ?_
    refine lv_icmp_ne (tgt := 101) hx hb dX11_text_47 (by decide) (fun c2 => ?_) (fun c2 => ?_)
    · skip
      refine lv_iconst (v := (-1)) hx hb dX11_text_101 (by decide) ?_
      exact W.iret (v := (-1)) hx hb hr (fun t ht hW => ⟨⟨(-1), (), rfl, (by unfold s_X11_text; rw [if_neg c1, if_neg c2]), trivial⟩, hS.F ht⟩) hS.2.2 dX11_text_102
    · skip
      refine lv_aload_n hx hb dX11_text_50 rfl (lv_at hl 0 rfl) ?_
      refine va_get (D := (dC, dI)) (ci := 11) (v := .ref h7) (C := RX11) (T := TX11) (N := 20) hx hb hts hinX11 hown hK hP 0 rfl rfl 3 (by decide) (hts (.fieldLink RX11 35 "DreamGuard" "laws" "LDreamGuard$LawBook;") (by decide +kernel)) (fun _ h9 => h9) rfl dX11_text_51 ?_
      refine va_get (D := (dC, dI)) (ci := 3) (v := .int 0) (C := RX3) (T := TX3) (N := 6) hx hb hts hinX3 hown hK hP 5 rfl rfl 4 (by decide) (hts (.fieldLink RX11 156 "DreamGuard$LawBook" "count" "I") (by decide +kernel)) (fun _ h9 => h9) rfl dX11_text_54 ?_
      refine lv_iconst (v := 4) hx hb dX11_text_57 (by decide) ?_
      refine lv_icmp_ge (tgt := 101) hx hb dX11_text_58 (by decide) (fun c9 => absurd c9 (by decide)) (fun _ => ?_)
      refine lv_aload_n hx hb dX11_text_61 rfl (lv_at hl 0 rfl) ?_
      refine va_get (D := (dC, dI)) (ci := 11) (v := .ref h6) (C := RX11) (T := TX11) (N := 20) hx hb hts hinX11 hown hK hP 0 rfl rfl 2 (by decide) (hts (.fieldLink RX11 28 "DreamGuard" "lawReader" "LDreamGuard$LawReader;") (by decide +kernel)) (fun _ h9 => h9) rfl dX11_text_62 ?_
      have hPc := hP.sub (ws' := [(h6, .inr (4, [.ref h3, v3_1, v3_2])), (h3, .inr (10, [v0_0, .int 0, v0_2]))]) [4, 1] rfl
      have hDc := hD.sub (ws' := [(h6, .inr (4, [.ref h3, v3_1, v3_2])), (h3, .inr (10, [v0_0, .int 0, v0_2]))]) [4, 1] (by decide) rfl
      have hFc := va_free (wc := [(h6, .inr (4, [.ref h3, v3_1, v3_2])), (h3, .inr (10, [v0_0, .int 0, v0_2]))]) hD hS hA [4, 1] rfl
      refine va_calli (va_runV (As := []) (rest := []) ⟨hx, hb, hml, hown, hts⟩ (c_X4_readLaw l dC dI cI cZ s.heap.size h6 h3 v3_1 v3_2 v0_0 v0_2) (cwV 0 hts gX11_text_X4_readLaw rfl rfl rfl (by decide +kernel) ⟨Nat.le_of_ble_eq_true rfl, Nat.le_of_ble_eq_true rfl⟩) (zPreV hPc hK hDc hG (ci := 4) (q0 := 0) rfl rfl) rfl rfl hl.1 rfl (lv_room (Nat.le_of_ble_eq_true rfl)) dX11_text_65 ⟨Nat.le_of_ble_eq_true rfl, Nat.le_of_ble_eq_true rfl⟩) hS (fun q _ h => hFc q h) hFc (fun r3 u9 t9 H1 locs ht9 hvm hwr3 hB9 hz1 hk1 hS => ?_)
      obtain ⟨hP1, hD1⟩ := hB9
      rw [ht9] at hP1
      obtain ⟨hP, hD⟩ := va_join (wr := [(h0, .inr (11, [.ref h3, .ref h4, .ref h6, .ref h7, d4, d5, d6, d7, d8, d9, d10, d11, d12, d13, d14, d15, d16, d17, d18, d19])), (h4, .inr (2, [.ref h3, .ref h5, v1_2, v1_3, v1_4, v1_5])), (h5, .inl (cI, 4, .inl (fun _ => 0))), (h7, .inr (3, [v4_0, v4_1, v4_2, v4_3, .int 0, v4_5]))]) (w1 := [(h6, .inr (4, [.ref h3, v3_1, .int 0])), (h3, .inr (10, [v0_0, .int 0, .int 0]))]) hP hD [4, 1] [0, 2, 3, 5] rfl rfl (by decide) (by decide) hk1 hFc hP1 hD1
      try clear hz1 hk1 hvm ht9 u9 hPc hDc hFc hP1 hD1
      generalize H1 = H at hP hS ⊢
      have hP : va_P (dC, dI) vwCl [(h0, .inr (11, [.ref h3, .ref h4, .ref h6, .ref h7, d4, d5, d6, d7, d8, d9, d10, d11, d12, d13, d14, d15, d16, d17, d18, d19])), (h4, .inr (2, [.ref h3, .ref h5, v1_2, v1_3, v1_4, v1_5])), (h5, .inl (cI, 4, .inl (fun _ => 0))), (h7, .inr (3, [v4_0, v4_1, v4_2, v4_3, .int 0, v4_5])), (h6, .inr (4, [.ref h3, v3_1, .int 0])), (h3, .inr (10, [v0_0, .int 0, .int 0]))] H := hP
      have hD : va_D A [(h0, .inr (11, [.ref h3, .ref h4, .ref h6, .ref h7, d4, d5, d6, d7, d8, d9, d10, d11, d12, d13, d14, d15, d16, d17, d18, d19])), (h4, .inr (2, [.ref h3, .ref h5, v1_2, v1_3, v1_4, v1_5])), (h5, .inl (cI, 4, .inl (fun _ => 0))), (h7, .inr (3, [v4_0, v4_1, v4_2, v4_3, .int 0, v4_5])), (h6, .inr (4, [.ref h3, v3_1, .int 0])), (h3, .inr (10, [v0_0, .int 0, .int 0]))] := hD
      obtain rfl : r3 = 0 := hwr3.trans rfl
      refine lv_if_eq (tgt := 101) hx hb dX11_text_68 (by decide) (fun _ => ?_) (fun c9 => absurd (by decide) c9)
      refine lv_iconst (v := (-1)) hx hb dX11_text_101 (by decide) ?_
      exact W.iret (v := (-1)) hx hb hr (fun t ht hW => ⟨⟨(-1), (), rfl, (by unfold s_X11_text; rw [if_neg c1, if_pos c2]), trivial⟩, hS.F ht⟩) hS.2.2 dX11_text_102
  · skip
    refine lv_aload_n hx hb dX11_text_4 rfl (lv_at hl 0 rfl) ?_
    refine va_get (D := (dC, dI)) (ci := 11) (v := .ref h4) (C := RX11) (T := TX11) (N := 20) hx hb hts hinX11 hown hK hP 0 rfl rfl 1 (by decide) (hts (.fieldLink RX11 21 "DreamGuard" "fortReader" "LDreamGuard$FortReader;") (by decide +kernel)) (fun _ h9 => h9) rfl dX11_text_5 ?_
    have hPc := hP.sub (ws' := [(h4, .inr (2, [.ref h3, .ref h5, v1_2, v1_3, v1_4, v1_5])), (h3, .inr (10, [v0_0, .int 0, v0_2])), (h5, .inl (cI, 4, .inl (fun _ => 0)))]) [2, 1, 3] rfl
    have hDc := hD.sub (ws' := [(h4, .inr (2, [.ref h3, .ref h5, v1_2, v1_3, v1_4, v1_5])), (h3, .inr (10, [v0_0, .int 0, v0_2])), (h5, .inl (cI, 4, .inl (fun _ => 0)))]) [2, 1, 3] (by decide) rfl
    have hFc := va_free (wc := [(h4, .inr (2, [.ref h3, .ref h5, v1_2, v1_3, v1_4, v1_5])), (h3, .inr (10, [v0_0, .int 0, v0_2])), (h5, .inl (cI, 4, .inl (fun _ => 0)))]) hD hS hA [2, 1, 3] rfl
    refine va_calli (va_runV (As := []) (rest := []) ⟨hx, hb, hml, hown, hts⟩ (c_X2_readFort l dC dI cI cZ s.heap.size tR h4 h3 h5 v1_2 v1_3 v1_4 v1_5 v0_0 v0_2) (cwV 0 hts gX11_text_X2_readFort rfl rfl rfl (by decide +kernel) ⟨Nat.le_of_ble_eq_true rfl, Nat.le_of_ble_eq_true rfl⟩) (zPreVT hSt hS hFc hPc hK hDc hG (ci := 2) (q0 := 0) rfl rfl) rfl rfl hl.1 rfl (lv_room (Nat.le_of_ble_eq_true rfl)) dX11_text_8 ⟨Nat.le_of_ble_eq_true rfl, Nat.le_of_ble_eq_true rfl⟩) hS (fun q _ h => hFc q h) hFc (fun r4 u9 t9 H1 locs ht9 hvm hwr4 hB9 hz1 hk1 hS => ?_)
    obtain ⟨hP1, hD1⟩ := hB9
    rw [ht9] at hP1
    obtain ⟨hP, hD⟩ := va_join (wr := [(h0, .inr (11, [.ref h3, .ref h4, .ref h6, .ref h7, d4, d5, d6, d7, d8, d9, d10, d11, d12, d13, d14, d15, d16, d17, d18, d19])), (h6, .inr (4, [.ref h3, v3_1, v3_2])), (h7, .inr (3, [v4_0, v4_1, v4_2, v4_3, .int 0, v4_5]))]) (w1 := [(h4, .inr (2, [.ref h3, .ref h5, v1_2, v1_3, .int 0, .int 0])), (h3, .inr (10, [v0_0, .int 0, .int 0]))]) hP hD [2, 1, 3] [0, 4, 5] rfl rfl (by decide) (by decide) hk1 hFc hP1 hD1
    try clear hz1 hk1 hvm ht9 u9 hPc hDc hFc hP1 hD1
    generalize H1 = H at hP hS ⊢
    have hP : va_P (dC, dI) vwCl [(h0, .inr (11, [.ref h3, .ref h4, .ref h6, .ref h7, d4, d5, d6, d7, d8, d9, d10, d11, d12, d13, d14, d15, d16, d17, d18, d19])), (h6, .inr (4, [.ref h3, v3_1, v3_2])), (h7, .inr (3, [v4_0, v4_1, v4_2, v4_3, .int 0, v4_5])), (h4, .inr (2, [.ref h3, .ref h5, v1_2, v1_3, .int 0, .int 0])), (h3, .inr (10, [v0_0, .int 0, .int 0]))] H := hP
    have hD : va_D A [(h0, .inr (11, [.ref h3, .ref h4, .ref h6, .ref h7, d4, d5, d6, d7, d8, d9, d10, d11, d12, d13, d14, d15, d16, d17, d18, d19])), (h6, .inr (4, [.ref h3, v3_1, v3_2])), (h7, .inr (3, [v4_0, v4_1, v4_2, v4_3, .int 0, v4_5])), (h4, .inr (2, [.ref h3, .ref h5, v1_2, v1_3, .int 0, .int 0])), (h3, .inr (10, [v0_0, .int 0, .int 0]))] := hD
    obtain rfl : r4 = 0 := hwr4.trans rfl
    refine lv_if_eq (tgt := 45) hx hb dX11_text_11 (by decide) (fun _ => ?_) (fun c9 => absurd (by decide) c9)
    refine lv_iload_n hx hb dX11_text_45 rfl (lv_at hl 1 rfl) ?_
    refine lv_iconst (v := 1) hx hb dX11_text_46 (by decide) ?_
    refine lv_icmp_ne (tgt := 101) hx hb dX11_text_47 (by decide) (fun _ => ?_) (fun c9 => absurd c9 (fun h => absurd (c1.symm.trans h) (by decide)))
    refine lv_iconst (v := (-1)) hx hb dX11_text_101 (by decide) ?_
    exact W.iret (v := (-1)) hx hb hr (fun t ht hW => ⟨⟨(-1), (), rfl, (by unfold s_X11_text; rw [if_pos c1]), trivial⟩, hS.F ht⟩) hS.2.2 dX11_text_102
