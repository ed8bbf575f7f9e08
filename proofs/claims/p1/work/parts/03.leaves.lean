def s_X1_hasMan (men : Int32) (p0 : Int32) : Int32 := (if p0 < 0 then 0 else (if men ≤ p0 then 0 else 1))
set_option maxHeartbeats 4000000 in
set_option maxRecDepth 100000 in
theorem c_X1_hasMan (l : Launch) (dC : Nat → ClassId) (dI : Nat → Nat → Nat) (cI cZ : ClassId) (sz : Nat) (h0 : Nat) (men : Int32) (v1 : Value) (v2 : Value) (v3 : Value) (v4 : Value) (p0 : Int32) : Met l yX1_hasMan wsX1_hasMan ({ frames := 0, cells := 0, slots := 0, locals := 0 }) (va_Pc [.ref h0, .int p0] (zPre dC dI cI cZ sz [(h0, .inr (1, [.int men, v1, v2, v3, v4]))])) (va_Qi (fun (r : Int32) (_ : Unit) => r = s_X1_hasMan men p0) (fun (_ : Unit) _ => True) (fun _ => False)) 0 0 (fun _ => False) := by
  refine Met.ofW (cc := cX1_hasMan) (maxL := 2) (ret := (some .boolean)) (by decide) rfl ?_
  intro p e s m args below meth c s₁ B hml hv
  obtain ⟨rfl, hsz, hP, hK, hD0, hG⟩ := hv
  have hx := B.exec
  have hb := B.bytes
  have hr := B.returns
  have hts := atoms_spec (ws := wsX1_hasMan) B.pre
  have hown : s.vm.findClass RX1 = some m.cls := findClass_of_methodNamed B.named
  have hlocks := B.notSynchronized
  have hinX1 : ∀ w ∈ wsX10, w ∈ wsX1_hasMan := by decide +kernel
  subst hsz
  have hS : va_S (fun _ : Nat => False) s.heap s.heap [] := va_S.rf
  have hP : va_P (dC, dI) vwCl [(h0, .inr (1, [.int men, v1, v2, v3, v4]))] s.heap := hP
  have hl := lv_entry ([.ref h0, .int p0]) (n := 2) (Nat.le_of_ble_eq_true rfl)
  rw [lg_entry_eq]
  generalize (lg_sl ([.ref h0, .int p0]) ++ List.replicate (2 - (lg_sl ([.ref h0, .int p0])).length) Slot.unset).toArray = ls at hl ⊢
  have hl : lv_has ls 2 [(0, .ref h0), (1, .int p0)] := hl
  refine lv_iload_n hx hb dX1_hasMan_0 rfl (lv_at hl 1 rfl) ?_
  refine lv_if_lt (tgt := 16) hx hb dX1_hasMan_1 (by decide) (fun c1 => ?_) (fun c1 => ?_)
  · skip
    refine lv_iconst (v := 0) hx hb dX1_hasMan_16 (by decide) ?_
    exact W.zret (v := 0) hx hb hr rfl (fun t ht hW => ⟨⟨0, (), rfl, (by unfold s_X1_hasMan; rw [if_pos c1]), trivial⟩, hS.F ht⟩) hS.2.2 dX1_hasMan_17
  · skip
    refine lv_iload_n hx hb dX1_hasMan_4 rfl (lv_at hl 1 rfl) ?_
    refine lv_aload_n hx hb dX1_hasMan_5 rfl (lv_at hl 0 rfl) ?_
    refine va_get (D := (dC, dI)) (ci := 1) (v := .int men) (C := RX1) (T := TX1) (N := 5) hx hb hts hinX1 hown hK hP 0 rfl rfl 0 (by decide) (hts (.fieldLink RX1 9 "DreamGuard$Fort" "men" "I") (by decide +kernel)) (fun _ h9 => h9) rfl dX1_hasMan_6 ?_
    refine lv_icmp_ge (tgt := 16) hx hb dX1_hasMan_9 (by decide) (fun c2 => ?_) (fun c2 => ?_)
    · skip
      refine lv_iconst (v := 0) hx hb dX1_hasMan_16 (by decide) ?_
      exact W.zret (v := 0) hx hb hr rfl (fun t ht hW => ⟨⟨0, (), rfl, (by unfold s_X1_hasMan; rw [if_neg c1, if_pos c2]), trivial⟩, hS.F ht⟩) hS.2.2 dX1_hasMan_17
    · skip
      refine lv_iconst (v := 1) hx hb dX1_hasMan_12 (by decide) ?_
      refine lv_goto (tgt := 17) hx hb dX1_hasMan_13 (by decide) ?_
      exact W.zret (v := 1) hx hb hr rfl (fun t ht hW => ⟨⟨1, (), rfl, (by unfold s_X1_hasMan; rw [if_neg c1, if_neg c2]), trivial⟩, hS.F ht⟩) hS.2.2 dX1_hasMan_17

def s_X1_hasHour (hours : Int32) (p0 : Int32) : Int32 := (if p0 < 0 then 0 else (if hours ≤ p0 then 0 else 1))
set_option maxHeartbeats 4000000 in
set_option maxRecDepth 100000 in
theorem c_X1_hasHour (l : Launch) (dC : Nat → ClassId) (dI : Nat → Nat → Nat) (cI cZ : ClassId) (sz : Nat) (h0 : Nat) (hours : Int32) (v0 : Value) (v2 : Value) (v3 : Value) (v4 : Value) (p0 : Int32) : Met l yX1_hasHour wsX1_hasHour ({ frames := 0, cells := 0, slots := 0, locals := 0 }) (va_Pc [.ref h0, .int p0] (zPre dC dI cI cZ sz [(h0, .inr (1, [v0, .int hours, v2, v3, v4]))])) (va_Qi (fun (r : Int32) (_ : Unit) => r = s_X1_hasHour hours p0) (fun (_ : Unit) _ => True) (fun _ => False)) 0 0 (fun _ => False) := by
  refine Met.ofW (cc := cX1_hasHour) (maxL := 2) (ret := (some .boolean)) (by decide) rfl ?_
  intro p e s m args below meth c s₁ B hml hv
  obtain ⟨rfl, hsz, hP, hK, hD0, hG⟩ := hv
  have hx := B.exec
  have hb := B.bytes
  have hr := B.returns
  have hts := atoms_spec (ws := wsX1_hasHour) B.pre
  have hown : s.vm.findClass RX1 = some m.cls := findClass_of_methodNamed B.named
  have hlocks := B.notSynchronized
  have hinX1 : ∀ w ∈ wsX10, w ∈ wsX1_hasHour := by decide +kernel
  subst hsz
  have hS : va_S (fun _ : Nat => False) s.heap s.heap [] := va_S.rf
  have hP : va_P (dC, dI) vwCl [(h0, .inr (1, [v0, .int hours, v2, v3, v4]))] s.heap := hP
  have hl := lv_entry ([.ref h0, .int p0]) (n := 2) (Nat.le_of_ble_eq_true rfl)
  rw [lg_entry_eq]
  generalize (lg_sl ([.ref h0, .int p0]) ++ List.replicate (2 - (lg_sl ([.ref h0, .int p0])).length) Slot.unset).toArray = ls at hl ⊢
  have hl : lv_has ls 2 [(0, .ref h0), (1, .int p0)] := hl
  refine lv_iload_n hx hb dX1_hasHour_0 rfl (lv_at hl 1 rfl) ?_
  refine lv_if_lt (tgt := 16) hx hb dX1_hasHour_1 (by decide) (fun c1 => ?_) (fun c1 => ?_)
  · skip
    refine lv_iconst (v := 0) hx hb dX1_hasHour_16 (by decide) ?_
    exact W.zret (v := 0) hx hb hr rfl (fun t ht hW => ⟨⟨0, (), rfl, (by unfold s_X1_hasHour; rw [if_pos c1]), trivial⟩, hS.F ht⟩) hS.2.2 dX1_hasHour_17
  · skip
    refine lv_iload_n hx hb dX1_hasHour_4 rfl (lv_at hl 1 rfl) ?_
    refine lv_aload_n hx hb dX1_hasHour_5 rfl (lv_at hl 0 rfl) ?_
    refine va_get (D := (dC, dI)) (ci := 1) (v := .int hours) (C := RX1) (T := TX1) (N := 5) hx hb hts hinX1 hown hK hP 0 rfl rfl 1 (by decide) (hts (.fieldLink RX1 15 "DreamGuard$Fort" "hours" "I") (by decide +kernel)) (fun _ h9 => h9) rfl dX1_hasHour_6 ?_
    refine lv_icmp_ge (tgt := 16) hx hb dX1_hasHour_9 (by decide) (fun c2 => ?_) (fun c2 => ?_)
    · skip
      refine lv_iconst (v := 0) hx hb dX1_hasHour_16 (by decide) ?_
      exact W.zret (v := 0) hx hb hr rfl (fun t ht hW => ⟨⟨0, (), rfl, (by unfold s_X1_hasHour; rw [if_neg c1, if_pos c2]), trivial⟩, hS.F ht⟩) hS.2.2 dX1_hasHour_17
    · skip
      refine lv_iconst (v := 1) hx hb dX1_hasHour_12 (by decide) ?_
      refine lv_goto (tgt := 17) hx hb dX1_hasHour_13 (by decide) ?_
      exact W.zret (v := 1) hx hb hr rfl (fun t ht hW => ⟨⟨1, (), rfl, (by unfold s_X1_hasHour; rw [if_neg c1, if_neg c2]), trivial⟩, hS.F ht⟩) hS.2.2 dX1_hasHour_17

theorem zs_hasMan0 (p : Int32) : s_X1_hasMan 0 p = 0 := by
  unfold s_X1_hasMan
  by_cases h : p < 0
  · rw [if_pos h]
  · rw [if_neg h, if_pos (Int32.not_lt.mp h)]
theorem zs_hasHour0 (p : Int32) : s_X1_hasHour 0 p = 0 := by
  unfold s_X1_hasHour
  by_cases h : p < 0
  · rw [if_pos h]
  · rw [if_neg h, if_pos (Int32.not_lt.mp h)]

def s_X11_hasFort : Int32 := 0
set_option maxHeartbeats 4000000 in
set_option maxRecDepth 100000 in
theorem c_X11_hasFort (l : Launch) (dC : Nat → ClassId) (dI : Nat → Nat → Nat) (cI cZ : ClassId) (sz : Nat) (h0 : Nat) (h1 : Nat) (d0 : Value) (d1 : Value) (d2 : Value) (d3 : Value) (d5 : Value) (d6 : Value) (d7 : Value) (d8 : Value) (d9 : Value) (d10 : Value) (d11 : Value) (d12 : Value) (d13 : Value) (d14 : Value) (d15 : Value) (d16 : Value) (d17 : Value) (d18 : Value) (d19 : Value) (v1 : Value) (v2 : Value) (v3 : Value) (v4 : Value) : Met l yX11_hasFort wsX11_hasFort ({ frames := 0, cells := 0, slots := 0, locals := 0 }) (va_Pc [.ref h0] (zPre dC dI cI cZ sz [(h0, .inr (11, [d0, d1, d2, d3, .ref h1, d5, d6, d7, d8, d9, d10, d11, d12, d13, d14, d15, d16, d17, d18, d19])), (h1, .inr (1, [.int 0, v1, v2, v3, v4]))])) (va_Qi (fun (r : Int32) (_ : Unit) => r = s_X11_hasFort) (fun (_ : Unit) _ => True) (fun _ => False)) 0 0 (fun _ => False) := by
  refine Met.ofW (cc := cX11_hasFort) (maxL := 1) (ret := (some .boolean)) (by decide) rfl ?_
  intro p e s m args below meth c s₁ B hml hv
  obtain ⟨rfl, hsz, hP, hK, hD0, hG⟩ := hv
  have hx := B.exec
  have hb := B.bytes
  have hr := B.returns
  have hts := atoms_spec (ws := wsX11_hasFort) B.pre
  have hown : s.vm.findClass RX11 = some m.cls := findClass_of_methodNamed B.named
  have hlocks := B.notSynchronized
  have hinX1 : ∀ w ∈ wsX10, w ∈ wsX11_hasFort := by decide +kernel
  have hinX11 : ∀ w ∈ wsX110, w ∈ wsX11_hasFort := by decide +kernel
  subst hsz
  have hS : va_S (fun _ : Nat => False) s.heap s.heap [] := va_S.rf
  have hP : va_P (dC, dI) vwCl [(h0, .inr (11, [d0, d1, d2, d3, .ref h1, d5, d6, d7, d8, d9, d10, d11, d12, d13, d14, d15, d16, d17, d18, d19])), (h1, .inr (1, [.int 0, v1, v2, v3, v4]))] s.heap := hP
  have hl := lv_entry ([.ref h0]) (n := 1) (Nat.le_of_ble_eq_true rfl)
  rw [lg_entry_eq]
  generalize (lg_sl ([.ref h0]) ++ List.replicate (1 - (lg_sl ([.ref h0])).length) Slot.unset).toArray = ls at hl ⊢
  have hl : lv_has ls 1 [(0, .ref h0)] := hl
  refine lv_aload_n hx hb dX11_hasFort_0 rfl (lv_at hl 0 rfl) ?_
  refine va_get (D := (dC, dI)) (ci := 11) (v := .ref h1) (C := RX11) (T := TX11) (N := 20) hx hb hts hinX11 hown hK hP 0 rfl rfl 4 (by decide) (hts (.fieldLink RX11 42 "DreamGuard" "fort" "LDreamGuard$Fort;") (by decide +kernel)) (fun _ h9 => h9) rfl dX11_hasFort_1 ?_
  refine va_get (D := (dC, dI)) (ci := 1) (v := .int 0) (C := RX1) (T := TX1) (N := 5) hx hb hts hinX1 hown hK hP 1 rfl rfl 0 (by decide) (hts (.fieldLink RX11 153 "DreamGuard$Fort" "men" "I") (by decide +kernel)) (fun _ h9 => h9) rfl dX11_hasFort_4 ?_
  refine lv_if_le (tgt := 14) hx hb dX11_hasFort_7 (by decide) (fun _ => ?_) (fun c9 => absurd (by decide) c9)
  refine lv_iconst (v := 0) hx hb dX11_hasFort_14 (by decide) ?_
  exact W.zret (v := 0) hx hb hr rfl (fun t ht hW => ⟨⟨0, (), rfl, (by unfold s_X11_hasFort; first | rfl | simp), trivial⟩, hS.F ht⟩) hS.2.2 dX11_hasFort_15

def s_X11_areTwo : Int32 := 0
set_option maxHeartbeats 4000000 in
set_option maxRecDepth 100000 in
theorem c_X11_areTwo (l : Launch) (dC : Nat → ClassId) (dI : Nat → Nat → Nat) (cI cZ : ClassId) (sz : Nat) (h0 : Nat) (h1 : Nat) (d0 : Value) (d1 : Value) (d2 : Value) (d3 : Value) (d5 : Value) (d6 : Value) (d7 : Value) (d8 : Value) (d9 : Value) (d10 : Value) (d11 : Value) (d12 : Value) (d13 : Value) (d14 : Value) (d15 : Value) (d16 : Value) (d17 : Value) (d18 : Value) (d19 : Value) (v1 : Value) (v2 : Value) (v3 : Value) (v4 : Value) (p0 : Int32) (p1 : Int32) : Met l yX11_areTwo wsX11_areTwo ({ frames := 1, cells := 0, slots := 0, locals := 21 }) (va_Pc [.ref h0, .int p0, .int p1] (zPre dC dI cI cZ sz [(h0, .inr (11, [d0, d1, d2, d3, .ref h1, d5, d6, d7, d8, d9, d10, d11, d12, d13, d14, d15, d16, d17, d18, d19])), (h1, .inr (1, [.int 0, v1, v2, v3, v4]))])) (va_Qi (fun (r : Int32) (_ : Unit) => r = s_X11_areTwo) (fun (_ : Unit) _ => True) (fun _ => False)) 0 0 (fun _ => False) := by
  refine Met.ofW (cc := cX11_areTwo) (maxL := 3) (ret := (some .boolean)) (by decide) rfl ?_
  intro p e s m args below meth c s₁ B hml hv
  obtain ⟨rfl, hsz, hP, hK, hD0, hG⟩ := hv
  have hx := B.exec
  have hb := B.bytes
  have hr := B.returns
  have hts := atoms_spec (ws := wsX11_areTwo) B.pre
  have hown : s.vm.findClass RX11 = some m.cls := findClass_of_methodNamed B.named
  have hlocks := B.notSynchronized
  have hinX11 : ∀ w ∈ wsX110, w ∈ wsX11_areTwo := by decide +kernel
  subst hsz
  have hS : va_S (fun _ : Nat => False) s.heap s.heap [] := va_S.rf
  have hP : va_P (dC, dI) vwCl [(h0, .inr (11, [d0, d1, d2, d3, .ref h1, d5, d6, d7, d8, d9, d10, d11, d12, d13, d14, d15, d16, d17, d18, d19])), (h1, .inr (1, [.int 0, v1, v2, v3, v4]))] s.heap := hP
  have hl := lv_entry ([.ref h0, .int p0, .int p1]) (n := 3) (Nat.le_of_ble_eq_true rfl)
  rw [lg_entry_eq]
  generalize (lg_sl ([.ref h0, .int p0, .int p1]) ++ List.replicate (3 - (lg_sl ([.ref h0, .int p0, .int p1])).length) Slot.unset).toArray = ls at hl ⊢
  have hl : lv_has ls 3 [(0, .ref h0), (1, .int p0), (2, .int p1)] := hl
  refine lv_aload_n hx hb dX11_areTwo_0 rfl (lv_at hl 0 rfl) ?_
  refine va_get (D := (dC, dI)) (ci := 11) (v := .ref h1) (C := RX11) (T := TX11) (N := 20) hx hb hts hinX11 hown hK hP 0 rfl rfl 4 (by decide) (hts (.fieldLink RX11 42 "DreamGuard" "fort" "LDreamGuard$Fort;") (by decide +kernel)) (fun _ h9 => h9) rfl dX11_areTwo_1 ?_
  refine lv_iload_n hx hb dX11_areTwo_4 rfl (lv_at hl 1 rfl) ?_
  have hPc := hP.sub (ws' := [(h1, .inr (1, [.int 0, v1, v2, v3, v4]))]) [1] rfl
  have hDc := hD0.sub (ws' := [(h1, .inr (1, [.int 0, v1, v2, v3, v4]))]) [1] (by decide) rfl
  refine va_calli (va_runV (As := [.int p0]) (rest := []) ⟨hx, hb, hml, hown, hts⟩ (c_X1_hasMan l dC dI cI cZ s.heap.size h1 0 v1 v2 v3 v4 p0) (cwV 1 hts gX11_areTwo_X1_hasMan rfl rfl rfl (by decide +kernel) ⟨Nat.le_of_ble_eq_true rfl, Nat.le_of_ble_eq_true rfl⟩) (zPreV hPc hK hDc hG (ci := 1) (q0 := 0) rfl rfl) rfl rfl hl.1 rfl (lv_room (Nat.le_of_ble_eq_true rfl)) dX11_areTwo_5 ⟨Nat.le_of_ble_eq_true rfl, Nat.le_of_ble_eq_true rfl⟩) hS (fun _ _ h => h.elim) (fun _ h => h.elim) (fun r1 u9 t9 H1 locs ht9 hvm hwr1 hB9 hz1 hk1 hS => ?_)
  replace hP := zKept hP hk1
  try clear hB9 hz1 hk1 hvm ht9 u9 hPc hDc
  generalize H1 = H at hP hS ⊢
  obtain rfl : r1 = 0 := hwr1.trans (zs_hasMan0 p0)
  refine lv_if_eq (tgt := 31) hx hb dX11_areTwo_8 (by decide) (fun _ => ?_) (fun c9 => absurd (by decide) c9)
  refine lv_iconst (v := 0) hx hb dX11_areTwo_31 (by decide) ?_
  exact W.zret (v := 0) hx hb hr rfl (fun t ht hW => ⟨⟨0, (), rfl, (by unfold s_X11_areTwo; first | rfl | simp), trivial⟩, hS.F ht⟩) hS.2.2 dX11_areTwo_32

def s_X11_sumOfMen : Int32 := 0
set_option maxHeartbeats 4000000 in
set_option maxRecDepth 100000 in
theorem c_X11_sumOfMen (l : Launch) (dC : Nat → ClassId) (dI : Nat → Nat → Nat) (cI cZ : ClassId) (sz : Nat) (h0 : Nat) (h1 : Nat) (hrow : Nat) (d0 : Value) (d1 : Value) (d2 : Value) (d3 : Value) (d5 : Value) (d6 : Value) (d7 : Value) (d8 : Value) (d9 : Value) (d10 : Value) (d11 : Value) (d12 : Value) (d13 : Value) (d14 : Value) (d15 : Value) (d16 : Value) (d17 : Value) (d18 : Value) (d19 : Value) (v1 : Value) (v2 : Value) (v3 : Value) (v4 : Value) : Met l yX11_sumOfMen wsX11_sumOfMen ({ frames := 0, cells := 0, slots := 0, locals := 0 }) (va_Pc [.ref h0, .ref hrow] (zPre dC dI cI cZ sz [(h0, .inr (11, [d0, d1, d2, d3, .ref h1, d5, d6, d7, d8, d9, d10, d11, d12, d13, d14, d15, d16, d17, d18, d19])), (h1, .inr (1, [.int 0, v1, v2, v3, v4]))])) (va_Qi (fun (r : Int32) (_ : Unit) => r = s_X11_sumOfMen) (fun (_ : Unit) _ => True) (fun _ => False)) 0 0 (fun _ => False) := by
  refine Met.ofW (cc := cX11_sumOfMen) (maxL := 4) (ret := (some .int)) (by decide) rfl ?_
  intro p e s m args below meth c s₁ B hml hv
  obtain ⟨rfl, hsz, hP, hK, hD0, hG⟩ := hv
  have hx := B.exec
  have hb := B.bytes
  have hr := B.returns
  have hts := atoms_spec (ws := wsX11_sumOfMen) B.pre
  have hown : s.vm.findClass RX11 = some m.cls := findClass_of_methodNamed B.named
  have hlocks := B.notSynchronized
  have hinX1 : ∀ w ∈ wsX10, w ∈ wsX11_sumOfMen := by decide +kernel
  have hinX11 : ∀ w ∈ wsX110, w ∈ wsX11_sumOfMen := by decide +kernel
  subst hsz
  have hS : va_S (fun _ : Nat => False) s.heap s.heap [] := va_S.rf
  have hP : va_P (dC, dI) vwCl [(h0, .inr (11, [d0, d1, d2, d3, .ref h1, d5, d6, d7, d8, d9, d10, d11, d12, d13, d14, d15, d16, d17, d18, d19])), (h1, .inr (1, [.int 0, v1, v2, v3, v4]))] s.heap := hP
  have hl := lv_entry ([.ref h0, .ref hrow]) (n := 4) (Nat.le_of_ble_eq_true rfl)
  rw [lg_entry_eq]
  generalize (lg_sl ([.ref h0, .ref hrow]) ++ List.replicate (4 - (lg_sl ([.ref h0, .ref hrow])).length) Slot.unset).toArray = ls at hl ⊢
  have hl : lv_has ls 4 [(0, .ref h0), (1, .ref hrow)] := hl
  refine lv_iconst (v := 0) hx hb dX11_sumOfMen_0 (by decide) ?_
  refine lv_istore_n (lv' := [(2, .int 0), (0, .ref h0), (1, .ref hrow)]) hx hb dX11_sumOfMen_1 rfl hl (by decide) rfl (fun ls hl => ?_)
  refine lv_iconst (v := 0) hx hb dX11_sumOfMen_2 (by decide) ?_
  refine lv_istore_n (lv' := [(3, .int 0), (2, .int 0), (0, .ref h0), (1, .ref hrow)]) hx hb dX11_sumOfMen_3 rfl hl (by decide) rfl (fun ls hl => ?_)
  refine lv_iload_n hx hb dX11_sumOfMen_4 rfl (lv_at hl 0 rfl) ?_
  refine lv_aload_n hx hb dX11_sumOfMen_5 rfl (lv_at hl 2 rfl) ?_
  refine va_get (D := (dC, dI)) (ci := 11) (v := .ref h1) (C := RX11) (T := TX11) (N := 20) hx hb hts hinX11 hown hK hP 0 rfl rfl 4 (by decide) (hts (.fieldLink RX11 42 "DreamGuard" "fort" "LDreamGuard$Fort;") (by decide +kernel)) (fun _ h9 => h9) rfl dX11_sumOfMen_6 ?_
  refine va_get (D := (dC, dI)) (ci := 1) (v := .int 0) (C := RX1) (T := TX1) (N := 5) hx hb hts hinX1 hown hK hP 1 rfl rfl 0 (by decide) (hts (.fieldLink RX11 153 "DreamGuard$Fort" "men" "I") (by decide +kernel)) (fun _ h9 => h9) rfl dX11_sumOfMen_9 ?_
  refine lv_icmp_ge (tgt := 27) hx hb dX11_sumOfMen_12 (by decide) (fun _ => ?_) (fun c9 => absurd (by decide) c9)
  refine lv_iload_n hx hb dX11_sumOfMen_27 rfl (lv_at hl 1 rfl) ?_
  exact W.iret (v := 0) hx hb hr (fun t ht hW => ⟨⟨0, (), rfl, (by unfold s_X11_sumOfMen; first | rfl | simp), trivial⟩, hS.F ht⟩) hS.2.2 dX11_sumOfMen_28

def s_X8_logLength (night : Int32) : Int32 := (if 60 ≤ night then 60 else night)
set_option maxHeartbeats 4000000 in
set_option maxRecDepth 100000 in
theorem c_X8_logLength (l : Launch) (dC : Nat → ClassId) (dI : Nat → Nat → Nat) (cI cZ : ClassId) (sz : Nat) (h0 : Nat) (night : Int32) (v0 : Value) (v1 : Value) (v2 : Value) (v3 : Value) (v4 : Value) (v5 : Value) (v6 : Value) (v7 : Value) (v8 : Value) : Met l yX8_logLength wsX8_logLength ({ frames := 0, cells := 0, slots := 0, locals := 0 }) (va_Pc [.ref h0] (zPre dC dI cI cZ sz [(h0, .inr (8, [v0, v1, v2, v3, v4, v5, v6, v7, v8, .int night]))])) (va_Qi (fun (r : Int32) (_ : Unit) => r = s_X8_logLength night) (fun (_ : Unit) _ => True) (fun _ => False)) 0 0 (fun _ => False) := by
  refine Met.ofW (cc := cX8_logLength) (maxL := 1) (ret := (some .int)) (by decide) rfl ?_
  intro p e s m args below meth c s₁ B hml hv
  obtain ⟨rfl, hsz, hP, hK, hD0, hG⟩ := hv
  have hx := B.exec
  have hb := B.bytes
  have hr := B.returns
  have hts := atoms_spec (ws := wsX8_logLength) B.pre
  have hown : s.vm.findClass RX8 = some m.cls := findClass_of_methodNamed B.named
  have hlocks := B.notSynchronized
  have hinX8 : ∀ w ∈ wsX80, w ∈ wsX8_logLength := by decide +kernel
  subst hsz
  have hS : va_S (fun _ : Nat => False) s.heap s.heap [] := va_S.rf
  have hP : va_P (dC, dI) vwCl [(h0, .inr (8, [v0, v1, v2, v3, v4, v5, v6, v7, v8, .int night]))] s.heap := hP
  have hl := lv_entry ([.ref h0]) (n := 1) (Nat.le_of_ble_eq_true rfl)
  rw [lg_entry_eq]
  generalize (lg_sl ([.ref h0]) ++ List.replicate (1 - (lg_sl ([.ref h0])).length) Slot.unset).toArray = ls at hl ⊢
  have hl : lv_has ls 1 [(0, .ref h0)] := hl
  refine lv_aload_n hx hb dX8_logLength_0 rfl (lv_at hl 0 rfl) ?_
  refine va_get (D := (dC, dI)) (ci := 8) (v := .int night) (C := RX8) (T := TX8) (N := 10) hx hb hts hinX8 hown hK hP 0 rfl rfl 9 (by decide) (hts (.fieldLink RX8 40 "DreamGuard$State" "night" "I") (by decide +kernel)) (fun _ h9 => h9) rfl dX8_logLength_1 ?_
  refine lv_bipush (v := 60) hx hb dX8_logLength_4 (by decide) ?_
  refine lv_icmp_ge (tgt := 16) hx hb dX8_logLength_6 (by decide) (fun c1 => ?_) (fun c1 => ?_)
  · skip
    refine lv_bipush (v := 60) hx hb dX8_logLength_16 (by decide) ?_
    exact W.iret (v := 60) hx hb hr (fun t ht hW => ⟨⟨60, (), rfl, (by unfold s_X8_logLength; rw [if_pos c1]), trivial⟩, hS.F ht⟩) hS.2.2 dX8_logLength_18
  · skip
    refine lv_aload_n hx hb dX8_logLength_9 rfl (lv_at hl 0 rfl) ?_
    refine va_get (D := (dC, dI)) (ci := 8) (v := .int night) (C := RX8) (T := TX8) (N := 10) hx hb hts hinX8 hown hK hP 0 rfl rfl 9 (by decide) (hts (.fieldLink RX8 40 "DreamGuard$State" "night" "I") (by decide +kernel)) (fun _ h9 => h9) rfl dX8_logLength_10 ?_
    refine lv_goto (tgt := 18) hx hb dX8_logLength_13 (by decide) ?_
    exact W.iret (v := night) hx hb hr (fun t ht hW => ⟨⟨night, (), rfl, (by unfold s_X8_logLength; rw [if_neg c1]), trivial⟩, hS.F ht⟩) hS.2.2 dX8_logLength_18

def s_X11_refuse : Int32 := (-1)
set_option maxHeartbeats 4000000 in
set_option maxRecDepth 100000 in
theorem c_X11_refuse (l : Launch) (dC : Nat → ClassId) (dI : Nat → Nat → Nat) (cI cZ : ClassId) (sz : Nat) (h0 : Nat) (h2 : Nat) (d0 : Value) (d1 : Value) (d2 : Value) (d3 : Value) (d4 : Value) (d5 : Value) (d6 : Value) (d7 : Value) (d8 : Value) (d9 : Value) (d10 : Value) (d11 : Value) (d12 : Value) (d13 : Value) (d14 : Value) (d16 : Value) (d17 : Value) (d18 : Value) (d19 : Value) : Met l yX11_refuse wsX11_refuse ({ frames := 0, cells := 0, slots := 0, locals := 0 }) (va_Pc [.ref h0, .int 0] (zPre dC dI cI cZ sz [(h0, .inr (11, [d0, d1, d2, d3, d4, d5, d6, d7, d8, d9, d10, d11, d12, d13, d14, .ref h2, d16, d17, d18, d19])), (h2, .inl (cI, 5, .inl (fun _ => 0)))])) (va_Qi (fun (r : Int32) (_ : Unit) => r = s_X11_refuse) (fun (_ : Unit) _ => True) (va_A [(h0, .inr (11, [d0, d1, d2, d3, d4, d5, d6, d7, d8, d9, d10, d11, d12, d13, d14, .ref h2, d16, d17, d18, d19])), (h2, .inl (cI, 5, .inl (fun _ => 0)))] sz)) 0 0 (va_A [(h0, .inr (11, [d0, d1, d2, d3, d4, d5, d6, d7, d8, d9, d10, d11, d12, d13, d14, .ref h2, d16, d17, d18, d19])), (h2, .inl (cI, 5, .inl (fun _ => 0)))] sz) := by
  refine Met.ofW (cc := cX11_refuse) (maxL := 2) (ret := (some .int)) (by decide) rfl ?_
  intro p e s m args below meth c s₁ B hml hv
  obtain ⟨rfl, hsz, hP, hK, hD0, hG⟩ := hv
  have hx := B.exec
  have hb := B.bytes
  have hr := B.returns
  have hts := atoms_spec (ws := wsX11_refuse) B.pre
  have hown : s.vm.findClass RX11 = some m.cls := findClass_of_methodNamed B.named
  have hlocks := B.notSynchronized
  have hinX11 : ∀ w ∈ wsX110, w ∈ wsX11_refuse := by decide +kernel
  subst hsz
  have hD := hD0.self (sz := s.heap.size)
  generalize hAe : va_A [(h0, .inr (11, [d0, d1, d2, d3, d4, d5, d6, d7, d8, d9, d10, d11, d12, d13, d14, .ref h2, d16, d17, d18, d19])), (h2, .inl (cI, 5, .inl (fun _ => 0)))] s.heap.size = A at hD ⊢
  have hA : ∀ q : Nat, s.heap.size ≤ q → A q := fun q h => by rw [← hAe]; exact Or.inr h
  have hS : va_S A s.heap s.heap [] := va_S.rf
  have hP : va_P (dC, dI) vwCl [(h0, .inr (11, [d0, d1, d2, d3, d4, d5, d6, d7, d8, d9, d10, d11, d12, d13, d14, .ref h2, d16, d17, d18, d19])), (h2, .inl (cI, 5, .inl (fun _ => 0)))] s.heap := hP
  have hl := lv_entry ([.ref h0, .int 0]) (n := 2) (Nat.le_of_ble_eq_true rfl)
  rw [lg_entry_eq]
  generalize (lg_sl ([.ref h0, .int 0]) ++ List.replicate (2 - (lg_sl ([.ref h0, .int 0])).length) Slot.unset).toArray = ls at hl ⊢
  have hl : lv_has ls 2 [(0, .ref h0), (1, .int 0)] := hl
  refine lv_aload_n hx hb dX11_refuse_0 rfl (lv_at hl 0 rfl) ?_
  refine va_get (D := (dC, dI)) (ci := 11) (v := .ref h2) (C := RX11) (T := TX11) (N := 20) hx hb hts hinX11 hown hK hP 0 rfl rfl 15 (by decide) (hts (.fieldLink RX11 107 "DreamGuard" "refused" "[I") (by decide +kernel)) (fun _ h9 => h9) rfl dX11_refuse_1 ?_
  refine lv_iload_n hx hb dX11_refuse_4 rfl (lv_at hl 1 rfl) ?_
  refine lv_dup2_11 hx hb dX11_refuse_5 rfl rfl ?_
  refine va_iald (i := 0) hx hb hK hP 1 0 rfl rfl (show ¬ ((0 : Int32) < 0 ∨ 5 ≤ (0 : Int32).toNatClampNeg) by decide) dX11_refuse_6 ?_
  refine lv_topi (fun k1 ek1 => ?_)
  obtain rfl : k1 = 0 := ek1.trans rfl
  refine lv_iconst (v := 1) hx hb dX11_refuse_7 (by decide) ?_
  refine lv_iadd hx hb dX11_refuse_8 ?_
  refine lv_topi (fun k2 ek2 => ?_)
  obtain rfl : k2 = 1 := ek2.trans (by decide)
  refine va_iast (i := 0) hx hb hK hP hD hS 1 0 rfl rfl (show ¬ ((0 : Int32) < 0 ∨ 5 ≤ (0 : Int32).toNatClampNeg) by decide) dX11_refuse_9 (fun H locs hP hD hS => ?_)
  generalize hff3 : upd (fun _ => 0) (0 : Int32).toNatClampNeg 1 = f3 at hP hD
  have hP : va_P (dC, dI) vwCl [(h0, .inr (11, [d0, d1, d2, d3, d4, d5, d6, d7, d8, d9, d10, d11, d12, d13, d14, .ref h2, d16, d17, d18, d19])), (h2, .inl (cI, 5, .inl f3))] H := hP
  have hD : va_D A [(h0, .inr (11, [d0, d1, d2, d3, d4, d5, d6, d7, d8, d9, d10, d11, d12, d13, d14, .ref h2, d16, d17, d18, d19])), (h2, .inl (cI, 5, .inl f3))] := hD
  refine lv_iconst (v := (-1)) hx hb dX11_refuse_10 (by decide) ?_
  exact W.iret (v := (-1)) hx hb hr (fun t ht hW => ⟨⟨(-1), (), rfl, (by unfold s_X11_refuse; first | rfl | simp), trivial⟩, hS.F ht⟩) hS.2.2 dX11_refuse_11
