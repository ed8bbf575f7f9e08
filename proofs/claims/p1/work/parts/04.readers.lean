def s_X10_peek : Int32 := 0
set_option maxHeartbeats 4000000 in
set_option maxRecDepth 100000 in
theorem c_X10_peek (l : Launch) (dC : Nat → ClassId) (dI : Nat → Nat → Nat) (cI cZ : ClassId) (sz : Nat) (h0 : Nat) (v0 : Value) : Met l yX10_peek wsX10_peek ({ frames := 0, cells := 0, slots := 0, locals := 0 }) (va_Pc [.ref h0] (zPre dC dI cI cZ sz [(h0, .inr (10, [v0, .int 0, .int 0]))])) (va_Qi (fun (r : Int32) (_ : Unit) => r = s_X10_peek) (fun (_ : Unit) _ => True) (fun _ => False)) 0 0 (fun _ => False) := by
  refine Met.ofW (cc := cX10_peek) (maxL := 1) (ret := (some .int)) (by decide) rfl ?_
  intro p e s m args below meth c s₁ B hml hv
  obtain ⟨rfl, hsz, hP, hK, hD0, hG⟩ := hv
  have hx := B.exec
  have hb := B.bytes
  have hr := B.returns
  have hts := atoms_spec (ws := wsX10_peek) B.pre
  have hown : s.vm.findClass RX10 = some m.cls := findClass_of_methodNamed B.named
  have hlocks := B.notSynchronized
  have hinX10 : ∀ w ∈ wsX100, w ∈ wsX10_peek := by decide +kernel
  subst hsz
  have hS : va_S (fun _ : Nat => False) s.heap s.heap [] := va_S.rf
  have hP : va_P (dC, dI) vwCl [(h0, .inr (10, [v0, .int 0, .int 0]))] s.heap := hP
  have hl := lv_entry ([.ref h0]) (n := 1) (Nat.le_of_ble_eq_true rfl)
  rw [lg_entry_eq]
  generalize (lg_sl ([.ref h0]) ++ List.replicate (1 - (lg_sl ([.ref h0])).length) Slot.unset).toArray = ls at hl ⊢
  have hl : lv_has ls 1 [(0, .ref h0)] := hl
  refine lv_aload_n hx hb dX10_peek_0 rfl (lv_at hl 0 rfl) ?_
  refine va_get (D := (dC, dI)) (ci := 10) (v := .int 0) (C := RX10) (T := TX10) (N := 3) hx hb hts hinX10 hown hK hP 0 rfl rfl 2 (by decide) (hts (.fieldLink RX10 19 "DreamGuard$Tape" "position" "I") (by decide +kernel)) (fun _ h9 => h9) rfl dX10_peek_1 ?_
  refine lv_aload_n hx hb dX10_peek_4 rfl (lv_at hl 0 rfl) ?_
  refine va_get (D := (dC, dI)) (ci := 10) (v := .int 0) (C := RX10) (T := TX10) (N := 3) hx hb hts hinX10 hown hK hP 0 rfl rfl 1 (by decide) (hts (.fieldLink RX10 15 "DreamGuard$Tape" "length" "I") (by decide +kernel)) (fun _ h9 => h9) rfl dX10_peek_5 ?_
  refine lv_icmp_ge (tgt := 38) hx hb dX10_peek_8 (by decide) (fun _ => ?_) (fun c9 => absurd (by decide) c9)
  refine lv_aload_n hx hb dX10_peek_38 rfl (lv_at hl 0 rfl) ?_
  refine va_get (D := (dC, dI)) (ci := 10) (v := .int 0) (C := RX10) (T := TX10) (N := 3) hx hb hts hinX10 hown hK hP 0 rfl rfl 2 (by decide) (hts (.fieldLink RX10 19 "DreamGuard$Tape" "position" "I") (by decide +kernel)) (fun _ h9 => h9) rfl dX10_peek_39 ?_
  refine lv_aload_n hx hb dX10_peek_42 rfl (lv_at hl 0 rfl) ?_
  refine va_get (D := (dC, dI)) (ci := 10) (v := .int 0) (C := RX10) (T := TX10) (N := 3) hx hb hts hinX10 hown hK hP 0 rfl rfl 1 (by decide) (hts (.fieldLink RX10 15 "DreamGuard$Tape" "length" "I") (by decide +kernel)) (fun _ h9 => h9) rfl dX10_peek_43 ?_
  refine lv_icmp_ge (tgt := 61) hx hb dX10_peek_46 (by decide) (fun _ => ?_) (fun c9 => absurd (by decide) c9)
  refine lv_iconst (v := 0) hx hb dX10_peek_61 (by decide) ?_
  exact W.iret (v := 0) hx hb hr (fun t ht hW => ⟨⟨0, (), rfl, (by unfold s_X10_peek; first | rfl | simp), trivial⟩, hS.F ht⟩) hS.2.2 dX10_peek_62

def s_X10_take : Int32 := 0
set_option maxHeartbeats 4000000 in
set_option maxRecDepth 100000 in
theorem c_X10_take (l : Launch) (dC : Nat → ClassId) (dI : Nat → Nat → Nat) (cI cZ : ClassId) (sz : Nat) (h0 : Nat) (v0 : Value) : Met l yX10_take wsX10_take ({ frames := 1, cells := 0, slots := 0, locals := 20 }) (va_Pc [.ref h0, .int 121] (zPre dC dI cI cZ sz [(h0, .inr (10, [v0, .int 0, .int 0]))])) (va_Qi (fun (r : Int32) (_ : Unit) => r = s_X10_take) (fun (_ : Unit) _ => True) (fun _ => False)) 0 0 (fun _ => False) := by
  refine Met.ofW (cc := cX10_take) (maxL := 2) (ret := (some .boolean)) (by decide) rfl ?_
  intro p e s m args below meth c s₁ B hml hv
  obtain ⟨rfl, hsz, hP, hK, hD0, hG⟩ := hv
  have hx := B.exec
  have hb := B.bytes
  have hr := B.returns
  have hts := atoms_spec (ws := wsX10_take) B.pre
  have hown : s.vm.findClass RX10 = some m.cls := findClass_of_methodNamed B.named
  have hlocks := B.notSynchronized
  subst hsz
  have hS : va_S (fun _ : Nat => False) s.heap s.heap [] := va_S.rf
  have hP : va_P (dC, dI) vwCl [(h0, .inr (10, [v0, .int 0, .int 0]))] s.heap := hP
  have hl := lv_entry ([.ref h0, .int 121]) (n := 2) (Nat.le_of_ble_eq_true rfl)
  rw [lg_entry_eq]
  generalize (lg_sl ([.ref h0, .int 121]) ++ List.replicate (2 - (lg_sl ([.ref h0, .int 121])).length) Slot.unset).toArray = ls at hl ⊢
  have hl : lv_has ls 2 [(0, .ref h0), (1, .int 121)] := hl
  refine lv_aload_n hx hb dX10_take_0 rfl (lv_at hl 0 rfl) ?_
  have hPc := hP.sub (ws' := [(h0, .inr (10, [v0, .int 0, .int 0]))]) [0] rfl
  have hDc := hD0.sub (ws' := [(h0, .inr (10, [v0, .int 0, .int 0]))]) [0] (by decide) rfl
  refine va_calli (va_runV (As := []) (rest := []) ⟨hx, hb, hml, hown, hts⟩ (c_X10_peek l dC dI cI cZ s.heap.size h0 v0) (cwV 0 hts gX10_take_X10_peek rfl rfl rfl (by decide +kernel) ⟨Nat.le_of_ble_eq_true rfl, Nat.le_of_ble_eq_true rfl⟩) (zPreV hPc hK hDc hG (ci := 10) (q0 := 0) rfl rfl) rfl rfl hl.1 rfl (lv_room (Nat.le_of_ble_eq_true rfl)) dX10_take_1 ⟨Nat.le_of_ble_eq_true rfl, Nat.le_of_ble_eq_true rfl⟩) hS (fun _ _ h => h.elim) (fun _ h => h.elim) (fun r1 u9 t9 H1 locs ht9 hvm hwr1 hB9 hz1 hk1 hS => ?_)
  replace hP := zKept hP hk1
  try clear hB9 hz1 hk1 hvm ht9 u9 hPc hDc
  generalize H1 = H at hP hS ⊢
  obtain rfl : r1 = 0 := hwr1.trans rfl
  refine lv_iload_n hx hb dX10_take_4 rfl (lv_at hl 1 rfl) ?_
  refine lv_icmp_eq (tgt := 10) hx hb dX10_take_5 (by decide) (fun c9 => absurd c9 (by decide)) (fun _ => ?_)
  refine lv_iconst (v := 0) hx hb dX10_take_8 (by decide) ?_
  exact W.zret (v := 0) hx hb hr rfl (fun t ht hW => ⟨⟨0, (), rfl, (by unfold s_X10_take; first | rfl | simp), trivial⟩, hS.F ht⟩) hS.2.2 dX10_take_9

def s_X4_readClause : Int32 := 0
set_option maxHeartbeats 4000000 in
set_option maxRecDepth 100000 in
theorem c_X4_readClause (l : Launch) (dC : Nat → ClassId) (dI : Nat → Nat → Nat) (cI cZ : ClassId) (sz : Nat) (h0 : Nat) (h1 : Nat) (w1 : Value) (w2 : Value) (v0 : Value) : Met l yX4_readClause wsX4_readClause ({ frames := 2, cells := 0, slots := 0, locals := 41 }) (va_Pc [.ref h0] (zPre dC dI cI cZ sz [(h0, .inr (4, [.ref h1, w1, w2])), (h1, .inr (10, [v0, .int 0, .int 0]))])) (va_Qi (fun (r : Int32) (_ : Unit) => r = s_X4_readClause) (fun (_ : Unit) _ => True) (fun _ => False)) 0 0 (fun _ => False) := by
  refine Met.ofW (cc := cX4_readClause) (maxL := 3) (ret := (some .boolean)) (by decide) rfl ?_
  intro p e s m args below meth c s₁ B hml hv
  obtain ⟨rfl, hsz, hP, hK, hD0, hG⟩ := hv
  have hx := B.exec
  have hb := B.bytes
  have hr := B.returns
  have hts := atoms_spec (ws := wsX4_readClause) B.pre
  have hown : s.vm.findClass RX4 = some m.cls := findClass_of_methodNamed B.named
  have hlocks := B.notSynchronized
  have hinX4 : ∀ w ∈ wsX40, w ∈ wsX4_readClause := by decide +kernel
  subst hsz
  have hS : va_S (fun _ : Nat => False) s.heap s.heap [] := va_S.rf
  have hP : va_P (dC, dI) vwCl [(h0, .inr (4, [.ref h1, w1, w2])), (h1, .inr (10, [v0, .int 0, .int 0]))] s.heap := hP
  have hl := lv_entry ([.ref h0]) (n := 3) (Nat.le_of_ble_eq_true rfl)
  rw [lg_entry_eq]
  generalize (lg_sl ([.ref h0]) ++ List.replicate (3 - (lg_sl ([.ref h0])).length) Slot.unset).toArray = ls at hl ⊢
  have hl : lv_has ls 3 [(0, .ref h0)] := hl
  refine lv_aload_n hx hb dX4_readClause_0 rfl (lv_at hl 0 rfl) ?_
  refine va_get (D := (dC, dI)) (ci := 4) (v := .ref h1) (C := RX4) (T := TX4) (N := 3) hx hb hts hinX4 hown hK hP 0 rfl rfl 0 (by decide) (hts (.fieldLink RX4 19 "DreamGuard$LawReader" "tape" "LDreamGuard$Tape;") (by decide +kernel)) (fun _ h9 => h9) rfl dX4_readClause_1 ?_
  refine lv_bipush (v := 121) hx hb dX4_readClause_4 (by decide) ?_
  have hPc := hP.sub (ws' := [(h1, .inr (10, [v0, .int 0, .int 0]))]) [1] rfl
  have hDc := hD0.sub (ws' := [(h1, .inr (10, [v0, .int 0, .int 0]))]) [1] (by decide) rfl
  refine va_calli (va_runV (As := [.int 121]) (rest := []) ⟨hx, hb, hml, hown, hts⟩ (c_X10_take l dC dI cI cZ s.heap.size h1 v0) (cwV 1 hts gX4_readClause_X10_take rfl rfl rfl (by decide +kernel) ⟨Nat.le_of_ble_eq_true rfl, Nat.le_of_ble_eq_true rfl⟩) (zPreV hPc hK hDc hG (ci := 10) (q0 := 0) rfl rfl) rfl rfl hl.1 rfl (lv_room (Nat.le_of_ble_eq_true rfl)) dX4_readClause_6 ⟨Nat.le_of_ble_eq_true rfl, Nat.le_of_ble_eq_true rfl⟩) hS (fun _ _ h => h.elim) (fun _ h => h.elim) (fun r1 u9 t9 H1 locs ht9 hvm hwr1 hB9 hz1 hk1 hS => ?_)
  replace hP := zKept hP hk1
  try clear hB9 hz1 hk1 hvm ht9 u9 hPc hDc
  generalize H1 = H at hP hS ⊢
  obtain rfl : r1 = 0 := hwr1.trans rfl
  refine lv_if_eq (tgt := 24) hx hb dX4_readClause_9 (by decide) (fun _ => ?_) (fun c9 => absurd (by decide) c9)
  refine lv_iconst (v := 0) hx hb dX4_readClause_24 (by decide) ?_
  exact W.zret (v := 0) hx hb hr rfl (fun t ht hW => ⟨⟨0, (), rfl, (by unfold s_X4_readClause; first | rfl | simp), trivial⟩, hS.F ht⟩) hS.2.2 dX4_readClause_25

def s_X2_readClause : Int32 := 0
set_option maxHeartbeats 4000000 in
set_option maxRecDepth 100000 in
theorem c_X2_readClause (l : Launch) (dC : Nat → ClassId) (dI : Nat → Nat → Nat) (cI cZ : ClassId) (sz : Nat) (h0 : Nat) (h1 : Nat) (w1 : Value) (w2 : Value) (w3 : Value) (w4 : Value) (w5 : Value) (v0 : Value) : Met l yX2_readClause wsX2_readClause ({ frames := 1, cells := 0, slots := 0, locals := 20 }) (va_Pc [.ref h0] (zPre dC dI cI cZ sz [(h0, .inr (2, [.ref h1, w1, w2, w3, w4, w5])), (h1, .inr (10, [v0, .int 0, .int 0]))])) (va_Qi (fun (r : Int32) (_ : Unit) => r = s_X2_readClause) (fun (_ : Unit) _ => True) (fun _ => False)) 0 0 (fun _ => False) := by
  refine Met.ofW (cc := cX2_readClause) (maxL := 3) (ret := (some .boolean)) (by decide) rfl ?_
  intro p e s m args below meth c s₁ B hml hv
  obtain ⟨rfl, hsz, hP, hK, hD0, hG⟩ := hv
  have hx := B.exec
  have hb := B.bytes
  have hr := B.returns
  have hts := atoms_spec (ws := wsX2_readClause) B.pre
  have hown : s.vm.findClass RX2 = some m.cls := findClass_of_methodNamed B.named
  have hlocks := B.notSynchronized
  have hinX2 : ∀ w ∈ wsX20, w ∈ wsX2_readClause := by decide +kernel
  subst hsz
  have hS : va_S (fun _ : Nat => False) s.heap s.heap [] := va_S.rf
  have hP : va_P (dC, dI) vwCl [(h0, .inr (2, [.ref h1, w1, w2, w3, w4, w5])), (h1, .inr (10, [v0, .int 0, .int 0]))] s.heap := hP
  have hl := lv_entry ([.ref h0]) (n := 3) (Nat.le_of_ble_eq_true rfl)
  rw [lg_entry_eq]
  generalize (lg_sl ([.ref h0]) ++ List.replicate (3 - (lg_sl ([.ref h0])).length) Slot.unset).toArray = ls at hl ⊢
  have hl : lv_has ls 3 [(0, .ref h0)] := hl
  refine lv_aload_n hx hb dX2_readClause_0 rfl (lv_at hl 0 rfl) ?_
  refine va_get (D := (dC, dI)) (ci := 2) (v := .ref h1) (C := RX2) (T := TX2) (N := 6) hx hb hts hinX2 hown hK hP 0 rfl rfl 0 (by decide) (hts (.fieldLink RX2 32 "DreamGuard$FortReader" "tape" "LDreamGuard$Tape;") (by decide +kernel)) (fun _ h9 => h9) rfl dX2_readClause_1 ?_
  have hPc := hP.sub (ws' := [(h1, .inr (10, [v0, .int 0, .int 0]))]) [1] rfl
  have hDc := hD0.sub (ws' := [(h1, .inr (10, [v0, .int 0, .int 0]))]) [1] (by decide) rfl
  refine va_calli (va_runV (As := []) (rest := []) ⟨hx, hb, hml, hown, hts⟩ (c_X10_peek l dC dI cI cZ s.heap.size h1 v0) (cwV 0 hts gX2_readClause_X10_peek rfl rfl rfl (by decide +kernel) ⟨Nat.le_of_ble_eq_true rfl, Nat.le_of_ble_eq_true rfl⟩) (zPreV hPc hK hDc hG (ci := 10) (q0 := 0) rfl rfl) rfl rfl hl.1 rfl (lv_room (Nat.le_of_ble_eq_true rfl)) dX2_readClause_4 ⟨Nat.le_of_ble_eq_true rfl, Nat.le_of_ble_eq_true rfl⟩) hS (fun _ _ h => h.elim) (fun _ h => h.elim) (fun r1 u9 t9 H1 locs ht9 hvm hwr1 hB9 hz1 hk1 hS => ?_)
  replace hP := zKept hP hk1
  try clear hB9 hz1 hk1 hvm ht9 u9 hPc hDc
  generalize H1 = H at hP hS ⊢
  obtain rfl : r1 = 0 := hwr1.trans rfl
  refine lv_istore_n (lv' := [(1, .int 0), (0, .ref h0)]) hx hb dX2_readClause_7 rfl hl (by decide) rfl (fun ls hl => ?_)
  refine lv_iload_n hx hb dX2_readClause_8 rfl (lv_at hl 0 rfl) ?_
  refine lv_bipush (v := 115) hx hb dX2_readClause_9 (by decide) ?_
  refine lv_icmp_ne (tgt := 56) hx hb dX2_readClause_11 (by decide) (fun _ => ?_) (fun c9 => absurd c9 (by decide))
  refine lv_iload_n hx hb dX2_readClause_56 rfl (lv_at hl 0 rfl) ?_
  refine lv_bipush (v := 109) hx hb dX2_readClause_57 (by decide) ?_
  refine lv_icmp_ne (tgt := 128) hx hb dX2_readClause_59 (by decide) (fun _ => ?_) (fun c9 => absurd c9 (by decide))
  refine lv_iconst (v := 0) hx hb dX2_readClause_128 (by decide) ?_
  exact W.zret (v := 0) hx hb hr rfl (fun t ht hW => ⟨⟨0, (), rfl, (by unfold s_X2_readClause; first | rfl | simp), trivial⟩, hS.F ht⟩) hS.2.2 dX2_readClause_129

def s_X4_readLaw : Int32 := 0
set_option maxHeartbeats 4000000 in
set_option maxRecDepth 100000 in
theorem c_X4_readLaw (l : Launch) (dC : Nat → ClassId) (dI : Nat → Nat → Nat) (cI cZ : ClassId) (sz : Nat) (h0 : Nat) (h1 : Nat) (w1 : Value) (w2 : Value) (v0 : Value) (v2 : Value) : Met l yX4_readLaw wsX4_readLaw ({ frames := 3, cells := 0, slots := 0, locals := 63 }) (va_Pc [.ref h0] (zPre dC dI cI cZ sz [(h0, .inr (4, [.ref h1, w1, w2])), (h1, .inr (10, [v0, .int 0, v2]))])) (va_Qi (fun (r : Int32) (_ : Unit) => r = s_X4_readLaw) (fun (_ : Unit) t => (va_P (dC, dI) vwCl [(h0, .inr (4, [.ref h1, w1, .int 0])), (h1, .inr (10, [v0, .int 0, .int 0]))] t.heap ∧ va_D (va_A [(h0, .inr (4, [.ref h1, w1, w2])), (h1, .inr (10, [v0, .int 0, v2]))] sz) [(h0, .inr (4, [.ref h1, w1, .int 0])), (h1, .inr (10, [v0, .int 0, .int 0]))])) (va_A [(h0, .inr (4, [.ref h1, w1, w2])), (h1, .inr (10, [v0, .int 0, v2]))] sz)) 0 0 (va_A [(h0, .inr (4, [.ref h1, w1, w2])), (h1, .inr (10, [v0, .int 0, v2]))] sz) := by
  refine Met.ofW (cc := cX4_readLaw) (maxL := 2) (ret := (some .boolean)) (by decide) rfl ?_
  intro p e s m args below meth c s₁ B hml hv
  obtain ⟨rfl, hsz, hP, hK, hD0, hG⟩ := hv
  have hx := B.exec
  have hb := B.bytes
  have hr := B.returns
  have hts := atoms_spec (ws := wsX4_readLaw) B.pre
  have hown : s.vm.findClass RX4 = some m.cls := findClass_of_methodNamed B.named
  have hlocks := B.notSynchronized
  have hinX10 : ∀ w ∈ wsX100, w ∈ wsX4_readLaw := by decide +kernel
  have hinX4 : ∀ w ∈ wsX40, w ∈ wsX4_readLaw := by decide +kernel
  subst hsz
  have hD := hD0.self (sz := s.heap.size)
  generalize hAe : va_A [(h0, .inr (4, [.ref h1, w1, w2])), (h1, .inr (10, [v0, .int 0, v2]))] s.heap.size = A at hD ⊢
  have hA : ∀ q : Nat, s.heap.size ≤ q → A q := fun q h => by rw [← hAe]; exact Or.inr h
  have hS : va_S A s.heap s.heap [] := va_S.rf
  have hP : va_P (dC, dI) vwCl [(h0, .inr (4, [.ref h1, w1, w2])), (h1, .inr (10, [v0, .int 0, v2]))] s.heap := hP
  have hl := lv_entry ([.ref h0]) (n := 2) (Nat.le_of_ble_eq_true rfl)
  rw [lg_entry_eq]
  generalize (lg_sl ([.ref h0]) ++ List.replicate (2 - (lg_sl ([.ref h0])).length) Slot.unset).toArray = ls at hl ⊢
  have hl : lv_has ls 2 [(0, .ref h0)] := hl
  refine lv_aload_n hx hb dX4_readLaw_0 rfl (lv_at hl 0 rfl) ?_
  refine va_get (D := (dC, dI)) (ci := 4) (v := .ref h1) (C := RX4) (T := TX4) (N := 3) hx hb hts hinX4 hown hK hP 0 rfl rfl 0 (by decide) (hts (.fieldLink RX4 19 "DreamGuard$LawReader" "tape" "LDreamGuard$Tape;") (by decide +kernel)) (fun _ h9 => h9) rfl dX4_readLaw_1 ?_
  refine lv_iconst (v := 0) hx hb dX4_readLaw_4 (by decide) ?_
  refine va_put (D := (dC, dI)) (ci := 10) (v := .int 0) (ty := .int) (C := RX10) (T := TX10) (N := 3) hx hb hts hinX10 tyX10 tyX10_ok nmX10 hown hK hP hD hS 1 rfl rfl 2 (by decide) (hts (.fieldLink RX4 23 "DreamGuard$Tape" "position" "I") (by decide +kernel)) (fun _ h9 => h9) rfl (by decide +kernel) rfl rfl (Nat.le_of_ble_eq_true rfl) dX4_readLaw_5 (fun H locs hP hD hS => ?_)
  have hP : va_P (dC, dI) vwCl [(h0, .inr (4, [.ref h1, w1, w2])), (h1, .inr (10, [v0, .int 0, .int 0]))] H := hP
  have hD : va_D A [(h0, .inr (4, [.ref h1, w1, w2])), (h1, .inr (10, [v0, .int 0, .int 0]))] := hD
  refine lv_aload_n hx hb dX4_readLaw_8 rfl (lv_at hl 0 rfl) ?_
  refine lv_iconst (v := 0) hx hb dX4_readLaw_9 (by decide) ?_
  refine va_put (D := (dC, dI)) (ci := 4) (v := .int 0) (ty := .int) (C := RX4) (T := TX4) (N := 3) hx hb hts hinX4 tyX4 tyX4_ok nmX4 hown hK hP hD hS 0 rfl rfl 2 (by decide) (hts (.fieldLink RX4 15 "DreamGuard$LawReader" "size" "I") (by decide +kernel)) (fun _ h9 => h9) rfl (by decide +kernel) rfl rfl (Nat.le_of_ble_eq_true rfl) dX4_readLaw_10 (fun H locs hP hD hS => ?_)
  have hP : va_P (dC, dI) vwCl [(h0, .inr (4, [.ref h1, w1, .int 0])), (h1, .inr (10, [v0, .int 0, .int 0]))] H := hP
  have hD : va_D A [(h0, .inr (4, [.ref h1, w1, .int 0])), (h1, .inr (10, [v0, .int 0, .int 0]))] := hD
  refine lv_iconst (v := 0) hx hb dX4_readLaw_13 (by decide) ?_
  refine lv_istore_n (lv' := [(1, .int 0), (0, .ref h0)]) hx hb dX4_readLaw_14 rfl hl (by decide) rfl (fun ls hl => ?_)
  refine lv_iload_n hx hb dX4_readLaw_15 rfl (lv_at hl 0 rfl) ?_
  refine lv_sipush (v := 240) hx hb dX4_readLaw_16 (by decide) ?_
  refine lv_icmp_ge (tgt := 58) hx hb dX4_readLaw_19 (by decide) (fun c9 => absurd c9 (by decide)) (fun _ => ?_)
  refine lv_aload_n hx hb dX4_readLaw_22 rfl (lv_at hl 1 rfl) ?_
  have hPc := hP.sub (ws' := [(h0, .inr (4, [.ref h1, w1, .int 0])), (h1, .inr (10, [v0, .int 0, .int 0]))]) [0, 1] rfl
  have hDc := hD.sub (ws' := [(h0, .inr (4, [.ref h1, w1, .int 0])), (h1, .inr (10, [v0, .int 0, .int 0]))]) [0, 1] (by decide) rfl
  refine va_calli (va_runV (As := []) (rest := []) ⟨hx, hb, hml, hown, hts⟩ (c_X4_readClause l dC dI cI cZ H.size h0 h1 w1 (.int 0) v0) (cwV 0 hts gX4_readLaw_X4_readClause rfl rfl rfl (by decide +kernel) ⟨Nat.le_of_ble_eq_true rfl, Nat.le_of_ble_eq_true rfl⟩) (zPreV hPc hK hDc hG (ci := 4) (q0 := 0) rfl rfl) rfl rfl hl.1 rfl (lv_room (Nat.le_of_ble_eq_true rfl)) dX4_readLaw_23 ⟨Nat.le_of_ble_eq_true rfl, Nat.le_of_ble_eq_true rfl⟩) hS (fun _ _ h => h.elim) (fun _ h => h.elim) (fun r1 u9 t9 H1 locs ht9 hvm hwr1 hB9 hz1 hk1 hS => ?_)
  replace hP := zKept hP hk1
  try clear hB9 hz1 hk1 hvm ht9 u9 hPc hDc
  generalize H1 = H at hP hS ⊢
  obtain rfl : r1 = 0 := hwr1.trans rfl
  refine lv_if_ne (tgt := 31) hx hb dX4_readLaw_26 (by decide) (fun c9 => absurd (by decide) c9) (fun _ => ?_)
  refine lv_iconst (v := 0) hx hb dX4_readLaw_29 (by decide) ?_
  have hP9 := hP.sub (ws' := [(h0, .inr (4, [.ref h1, w1, .int 0])), (h1, .inr (10, [v0, .int 0, .int 0]))]) [0, 1] rfl
  have hD9 := hD.sub (ws' := [(h0, .inr (4, [.ref h1, w1, .int 0])), (h1, .inr (10, [v0, .int 0, .int 0]))]) [0, 1] (by decide) rfl
  exact W.zret (v := 0) hx hb hr rfl (fun t ht hW => ⟨⟨0, (), rfl, (by unfold s_X4_readLaw; first | rfl | simp), ⟨by rw [ht]; exact hP9, hD9⟩⟩, hS.F ht⟩) hS.2.2 dX4_readLaw_30

def s_X2_readFort : Int32 := 0
set_option maxHeartbeats 4000000 in
set_option maxRecDepth 100000 in
theorem c_X2_readFort (l : Launch) (dC : Nat → ClassId) (dI : Nat → Nat → Nat) (cI cZ : ClassId) (sz : Nat) (tR : Nat) (h0 : Nat) (h1 : Nat) (h2 : Nat) (w2 : Value) (w3 : Value) (w4 : Value) (w5 : Value) (v0 : Value) (v2 : Value) : Met l yX2_readFort wsX2_readFort ({ frames := 2, cells := 0, slots := 0, locals := 60 }) (va_Pc [.ref h0] (zPreT dC dI cI cZ sz [(h0, .inr (2, [.ref h1, .ref h2, w2, w3, w4, w5])), (h1, .inr (10, [v0, .int 0, v2])), (h2, .inl (cI, 4, .inl (fun _ => 0)))] tR)) (va_Qi (fun (r : Int32) (_ : Unit) => r = s_X2_readFort) (fun (_ : Unit) t => (va_P (dC, dI) vwCl [(h0, .inr (2, [.ref h1, .ref h2, w2, w3, .int 0, .int 0])), (h1, .inr (10, [v0, .int 0, .int 0]))] t.heap ∧ va_D (va_A [(h0, .inr (2, [.ref h1, .ref h2, w2, w3, w4, w5])), (h1, .inr (10, [v0, .int 0, v2])), (h2, .inl (cI, 4, .inl (fun _ => 0)))] sz) [(h0, .inr (2, [.ref h1, .ref h2, w2, w3, .int 0, .int 0])), (h1, .inr (10, [v0, .int 0, .int 0]))])) (va_A [(h0, .inr (2, [.ref h1, .ref h2, w2, w3, w4, w5])), (h1, .inr (10, [v0, .int 0, v2])), (h2, .inl (cI, 4, .inl (fun _ => 0)))] sz)) 0 0 (va_A [(h0, .inr (2, [.ref h1, .ref h2, w2, w3, w4, w5])), (h1, .inr (10, [v0, .int 0, v2])), (h2, .inl (cI, 4, .inl (fun _ => 0)))] sz) := by
  refine Met.ofW (cc := cX2_readFort) (maxL := 2) (ret := (some .boolean)) (by decide) rfl ?_
  intro p e s m args below meth c s₁ B hml hv
  obtain ⟨rfl, ⟨hsz, hP, hK, hD0, hG⟩, hSt⟩ := hv
  have hx := B.exec
  have hb := B.bytes
  have hr := B.returns
  have hts := atoms_spec (ws := wsX2_readFort) B.pre
  have hown : s.vm.findClass RX2 = some m.cls := findClass_of_methodNamed B.named
  have hlocks := B.notSynchronized
  have hinX10 : ∀ w ∈ wsX100, w ∈ wsX2_readFort := by decide +kernel
  have hinX2 : ∀ w ∈ wsX20, w ∈ wsX2_readFort := by decide +kernel
  subst hsz
  have hD := hD0.self (sz := s.heap.size)
  generalize hAe : va_A [(h0, .inr (2, [.ref h1, .ref h2, w2, w3, w4, w5])), (h1, .inr (10, [v0, .int 0, v2])), (h2, .inl (cI, 4, .inl (fun _ => 0)))] s.heap.size = A at hD hSt ⊢
  have hA : ∀ q : Nat, s.heap.size ≤ q → A q := fun q h => by rw [← hAe]; exact Or.inr h
  have hS : va_S A s.heap s.heap [] := va_S.rf
  have hP : va_P (dC, dI) vwCl [(h0, .inr (2, [.ref h1, .ref h2, w2, w3, w4, w5])), (h1, .inr (10, [v0, .int 0, v2])), (h2, .inl (cI, 4, .inl (fun _ => 0)))] s.heap := hP
  have hl := lv_entry ([.ref h0]) (n := 2) (Nat.le_of_ble_eq_true rfl)
  rw [lg_entry_eq]
  generalize (lg_sl ([.ref h0]) ++ List.replicate (2 - (lg_sl ([.ref h0])).length) Slot.unset).toArray = ls at hl ⊢
  have hl : lv_has ls 2 [(0, .ref h0)] := hl
  refine lv_aload_n hx hb dX2_readFort_0 rfl (lv_at hl 0 rfl) ?_
  refine va_get (D := (dC, dI)) (ci := 2) (v := .ref h1) (C := RX2) (T := TX2) (N := 6) hx hb hts hinX2 hown hK hP 0 rfl rfl 0 (by decide) (hts (.fieldLink RX2 32 "DreamGuard$FortReader" "tape" "LDreamGuard$Tape;") (by decide +kernel)) (fun _ h9 => h9) rfl dX2_readFort_1 ?_
  refine lv_iconst (v := 0) hx hb dX2_readFort_4 (by decide) ?_
  refine va_put (D := (dC, dI)) (ci := 10) (v := .int 0) (ty := .int) (C := RX10) (T := TX10) (N := 3) hx hb hts hinX10 tyX10 tyX10_ok nmX10 hown hK hP hD hS 1 rfl rfl 2 (by decide) (hts (.fieldLink RX2 36 "DreamGuard$Tape" "position" "I") (by decide +kernel)) (fun _ h9 => h9) rfl (by decide +kernel) rfl rfl (Nat.le_of_ble_eq_true rfl) dX2_readFort_5 (fun H locs hP hD hS => ?_)
  have hP : va_P (dC, dI) vwCl [(h0, .inr (2, [.ref h1, .ref h2, w2, w3, w4, w5])), (h1, .inr (10, [v0, .int 0, .int 0])), (h2, .inl (cI, 4, .inl (fun _ => 0)))] H := hP
  have hD : va_D A [(h0, .inr (2, [.ref h1, .ref h2, w2, w3, w4, w5])), (h1, .inr (10, [v0, .int 0, .int 0])), (h2, .inl (cI, 4, .inl (fun _ => 0)))] := hD
  refine lv_aload_n hx hb dX2_readFort_8 rfl (lv_at hl 0 rfl) ?_
  refine lv_iconst (v := 0) hx hb dX2_readFort_9 (by decide) ?_
  refine va_put (D := (dC, dI)) (ci := 2) (v := .int 0) (ty := .int) (C := RX2) (T := TX2) (N := 6) hx hb hts hinX2 tyX2 tyX2_ok nmX2 hown hK hP hD hS 0 rfl rfl 4 (by decide) (hts (.fieldLink RX2 24 "DreamGuard$FortReader" "men" "I") (by decide +kernel)) (fun _ h9 => h9) rfl (by decide +kernel) rfl rfl (Nat.le_of_ble_eq_true rfl) dX2_readFort_10 (fun H locs hP hD hS => ?_)
  have hP : va_P (dC, dI) vwCl [(h0, .inr (2, [.ref h1, .ref h2, w2, w3, .int 0, w5])), (h1, .inr (10, [v0, .int 0, .int 0])), (h2, .inl (cI, 4, .inl (fun _ => 0)))] H := hP
  have hD : va_D A [(h0, .inr (2, [.ref h1, .ref h2, w2, w3, .int 0, w5])), (h1, .inr (10, [v0, .int 0, .int 0])), (h2, .inl (cI, 4, .inl (fun _ => 0)))] := hD
  refine lv_aload_n hx hb dX2_readFort_13 rfl (lv_at hl 0 rfl) ?_
  refine lv_iconst (v := 0) hx hb dX2_readFort_14 (by decide) ?_
  refine va_put (D := (dC, dI)) (ci := 2) (v := .int 0) (ty := .boolean) (C := RX2) (T := TX2) (N := 6) hx hb hts hinX2 tyX2 tyX2_ok nmX2 hown hK hP hD hS 0 rfl rfl 5 (by decide) (hts (.fieldLink RX2 28 "DreamGuard$FortReader" "hasRules" "Z") (by decide +kernel)) (fun _ h9 => h9) rfl (by decide +kernel) rfl rfl (Nat.le_of_ble_eq_true rfl) dX2_readFort_15 (fun H locs hP hD hS => ?_)
  have hP : va_P (dC, dI) vwCl [(h0, .inr (2, [.ref h1, .ref h2, w2, w3, .int 0, .int 0])), (h1, .inr (10, [v0, .int 0, .int 0])), (h2, .inl (cI, 4, .inl (fun _ => 0)))] H := hP
  have hD : va_D A [(h0, .inr (2, [.ref h1, .ref h2, w2, w3, .int 0, .int 0])), (h1, .inr (10, [v0, .int 0, .int 0])), (h2, .inl (cI, 4, .inl (fun _ => 0)))] := hD
  refine va_gets (C := RX2) (n := "RULE_FIRST") (d := "[I") hx hb hSt.1 hS hown (hts (.fieldLink RX2 41 "DreamGuard$FortReader" "RULE_FIRST" "[I") (by decide +kernel)) (fun _ h9 => h9) dX2_readFort_18 ?_
  refine lv_iconst (v := 0) hx hb dX2_readFort_21 (by decide) ?_
  refine lv_aload_n hx hb dX2_readFort_22 rfl (lv_at hl 0 rfl) ?_
  refine va_get (D := (dC, dI)) (ci := 2) (v := .ref h2) (C := RX2) (T := TX2) (N := 6) hx hb hts hinX2 hown hK hP 0 rfl rfl 1 (by decide) (hts (.fieldLink RX2 11 "DreamGuard$FortReader" "rules" "[I") (by decide +kernel)) (fun _ h9 => h9) rfl dX2_readFort_23 ?_
  refine lv_iconst (v := 0) hx hb dX2_readFort_26 (by decide) ?_
  refine va_gets (C := RX2) (n := "RULE_FIRST") (d := "[I") hx hb hSt.1 hS hown (hts (.fieldLink RX2 41 "DreamGuard$FortReader" "RULE_FIRST" "[I") (by decide +kernel)) (fun _ h9 => h9) dX2_readFort_27 ?_
  refine va_tlen (v := 3) hx hb hSt.2 hS (by decide) dX2_readFort_30 ?_
  refine z_copyt hx hb (hml.trans hl.1.symm) hown (hts (.methodLink RX2 44 arraycopyName) (by decide +kernel)) (hts (.native arraycopyName) (by decide +kernel)) (hts (.static arraycopyName) (by decide +kernel)) (hts (.initialized "java/lang/System") (by decide +kernel)) hK hP hD hS hSt.2 2 0 rfl rfl (by decide) (by decide) (by decide) (by decide) (by decide) (fun _ _ => rfl) (Nat.le_of_ble_eq_true rfl) (by decide) dX2_readFort_31 (fun H locs hP hD hS => ?_)
  generalize hff1 : va_cpy zRF _ _ _ _ = f1 at hP hD
  have hP : va_P (dC, dI) vwCl [(h0, .inr (2, [.ref h1, .ref h2, w2, w3, .int 0, .int 0])), (h1, .inr (10, [v0, .int 0, .int 0])), (h2, .inl (cI, 4, .inl f1))] H := hP
  have hD : va_D A [(h0, .inr (2, [.ref h1, .ref h2, w2, w3, .int 0, .int 0])), (h1, .inr (10, [v0, .int 0, .int 0])), (h2, .inl (cI, 4, .inl f1))] := hD
  refine lv_iconst (v := 0) hx hb dX2_readFort_34 (by decide) ?_
  refine lv_istore_n (lv' := [(1, .int 0), (0, .ref h0)]) hx hb dX2_readFort_35 rfl hl (by decide) rfl (fun ls hl => ?_)
  refine lv_iload_n hx hb dX2_readFort_36 rfl (lv_at hl 0 rfl) ?_
  refine lv_sipush (v := 240) hx hb dX2_readFort_37 (by decide) ?_
  refine lv_icmp_ge (tgt := 73) hx hb dX2_readFort_40 (by decide) (fun c9 => absurd c9 (by decide)) (fun _ => ?_)
  refine lv_aload_n hx hb dX2_readFort_43 rfl (lv_at hl 1 rfl) ?_
  have hPc := hP.sub (ws' := [(h0, .inr (2, [.ref h1, .ref h2, w2, w3, .int 0, .int 0])), (h1, .inr (10, [v0, .int 0, .int 0]))]) [0, 1] rfl
  have hDc := hD.sub (ws' := [(h0, .inr (2, [.ref h1, .ref h2, w2, w3, .int 0, .int 0])), (h1, .inr (10, [v0, .int 0, .int 0]))]) [0, 1] (by decide) rfl
  refine va_calli (va_runV (As := []) (rest := []) ⟨hx, hb, hml, hown, hts⟩ (c_X2_readClause l dC dI cI cZ H.size h0 h1 (.ref h2) w2 w3 (.int 0) (.int 0) v0) (cwV 0 hts gX2_readFort_X2_readClause rfl rfl rfl (by decide +kernel) ⟨Nat.le_of_ble_eq_true rfl, Nat.le_of_ble_eq_true rfl⟩) (zPreV hPc hK hDc hG (ci := 2) (q0 := 0) rfl rfl) rfl rfl hl.1 rfl (lv_room (Nat.le_of_ble_eq_true rfl)) dX2_readFort_44 ⟨Nat.le_of_ble_eq_true rfl, Nat.le_of_ble_eq_true rfl⟩) hS (fun _ _ h => h.elim) (fun _ h => h.elim) (fun r2 u9 t9 H1 locs ht9 hvm hwr2 hB9 hz1 hk1 hS => ?_)
  replace hP := zKept hP hk1
  try clear hB9 hz1 hk1 hvm ht9 u9 hPc hDc
  generalize H1 = H at hP hS ⊢
  obtain rfl : r2 = 0 := hwr2.trans rfl
  refine lv_if_ne (tgt := 52) hx hb dX2_readFort_47 (by decide) (fun c9 => absurd (by decide) c9) (fun _ => ?_)
  refine lv_iconst (v := 0) hx hb dX2_readFort_50 (by decide) ?_
  have hP9 := hP.sub (ws' := [(h0, .inr (2, [.ref h1, .ref h2, w2, w3, .int 0, .int 0])), (h1, .inr (10, [v0, .int 0, .int 0]))]) [0, 1] rfl
  have hD9 := hD.sub (ws' := [(h0, .inr (2, [.ref h1, .ref h2, w2, w3, .int 0, .int 0])), (h1, .inr (10, [v0, .int 0, .int 0]))]) [0, 1] (by decide) rfl
  exact W.zret (v := 0) hx hb hr rfl (fun t ht hW => ⟨⟨0, (), rfl, (by unfold s_X2_readFort; first | rfl | simp), ⟨by rw [ht]; exact hP9, hD9⟩⟩, hS.F ht⟩) hS.2.2 dX2_readFort_51
