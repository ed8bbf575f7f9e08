def s_X12_in (p0 : Int32) (p1 : Int32) (p2 : Int32) : Int32 := (if p0 < p1 then 0 else (if p2 < p0 then 0 else 1))
set_option maxHeartbeats 4000000 in
set_option maxRecDepth 100000 in
theorem c_X12_in (l : Launch) (dC : Nat → ClassId) (dI : Nat → Nat → Nat) (cI cZ : ClassId) (sz : Nat) (p0 : Int32) (p1 : Int32) (p2 : Int32) : Met l yX12_in wsX12_in ({ frames := 0, cells := 0, slots := 0, locals := 0 }) (va_Pc [.int p0, .int p1, .int p2] (zPre dC dI cI cZ sz [])) (va_Qi (fun (r : Int32) (_ : Unit) => r = s_X12_in p0 p1 p2) (fun (_ : Unit) _ => True) (fun _ => False)) 0 0 (fun _ => False) := by
  refine Met.ofW (cc := cX12_in) (maxL := 3) (ret := (some .boolean)) (by decide) rfl ?_
  intro p e s m args below meth c s₁ B hml hv
  obtain ⟨rfl, hsz, hP, hK, hD0, hG⟩ := hv
  have hx := B.exec
  have hb := B.bytes
  have hr := B.returns
  have hts := atoms_spec (ws := wsX12_in) B.pre
  have hown : s.vm.findClass RX12 = some m.cls := findClass_of_methodNamed B.named
  have hlocks := B.notSynchronized
  subst hsz
  have hS : va_S (fun _ : Nat => False) s.heap s.heap [] := va_S.rf
  have hP : va_P (dC, dI) vwCl [] s.heap := hP
  have hl := lv_entry ([.int p0, .int p1, .int p2]) (n := 3) (Nat.le_of_ble_eq_true rfl)
  rw [lg_entry_eq]
  generalize (lg_sl ([.int p0, .int p1, .int p2]) ++ List.replicate (3 - (lg_sl ([.int p0, .int p1, .int p2])).length) Slot.unset).toArray = ls at hl ⊢
  have hl : lv_has ls 3 [(0, .int p0), (1, .int p1), (2, .int p2)] := hl
  refine lv_iload_n hx hb dX12_in_0 rfl (lv_at hl 0 rfl) ?_
  refine lv_iload_n hx hb dX12_in_1 rfl (lv_at hl 1 rfl) ?_
  refine lv_icmp_lt (tgt := 14) hx hb dX12_in_2 (by decide) (fun c1 => ?_) (fun c1 => ?_)
  · skip
    refine lv_iconst (v := 0) hx hb dX12_in_14 (by decide) ?_
    exact W.zret (v := 0) hx hb hr rfl (fun t ht hW => ⟨⟨0, (), rfl, (by unfold s_X12_in; rw [if_pos c1]), trivial⟩, hS.F ht⟩) hS.2.2 dX12_in_15
  · skip
    refine lv_iload_n hx hb dX12_in_5 rfl (lv_at hl 0 rfl) ?_
    refine lv_iload_n hx hb dX12_in_6 rfl (lv_at hl 2 rfl) ?_
    refine lv_icmp_gt (tgt := 14) hx hb dX12_in_7 (by decide) (fun c2 => ?_) (fun c2 => ?_)
    · skip
      refine lv_iconst (v := 0) hx hb dX12_in_14 (by decide) ?_
      exact W.zret (v := 0) hx hb hr rfl (fun t ht hW => ⟨⟨0, (), rfl, (by unfold s_X12_in; rw [if_neg c1, if_pos c2]), trivial⟩, hS.F ht⟩) hS.2.2 dX12_in_15
    · skip
      refine lv_iconst (v := 1) hx hb dX12_in_10 (by decide) ?_
      refine lv_goto (tgt := 15) hx hb dX12_in_11 (by decide) ?_
      exact W.zret (v := 1) hx hb hr rfl (fun t ht hW => ⟨⟨1, (), rfl, (by unfold s_X12_in; rw [if_neg c1, if_neg c2]), trivial⟩, hS.F ht⟩) hS.2.2 dX12_in_15

theorem zs_in0 (p : Int32) : s_X12_in p 0 (-1) = 0 := by
  unfold s_X12_in
  by_cases h : p < 0
  · first | rw [if_pos h] | (rw [if_neg (fun q => absurd h (Int32.not_lt.mpr q))])
  · have h1 : (0 : Int32) ≤ p := Int32.not_lt.mp h
    have h2 : ¬ p ≤ -1 := fun q => absurd (Int32.le_trans h1 q) (by decide)
    simp [h, h1, h2]

def s_X12_isMan : Int32 := 0
set_option maxHeartbeats 4000000 in
set_option maxRecDepth 100000 in
theorem c_X12_isMan (l : Launch) (dC : Nat → ClassId) (dI : Nat → Nat → Nat) (cI cZ : ClassId) (sz : Nat) (h0 : Nat) (d0 : Value) (d1 : Value) (d2 : Value) (d3 : Value) (d4 : Value) (d5 : Value) (d6 : Value) (d7 : Value) (d8 : Value) (d9 : Value) (d10 : Value) (d11 : Value) (d12 : Value) (d13 : Value) (d14 : Value) (d15 : Value) (d16 : Value) (d17 : Value) (d18 : Value) (d19 : Value) (d20 : Value) (d21 : Value) (d23 : Value) (d24 : Value) (d25 : Value) (d26 : Value) (d27 : Value) (d28 : Value) (d29 : Value) (d30 : Value) (d31 : Value) (d32 : Value) (d33 : Value) (d34 : Value) (d35 : Value) (d36 : Value) (d37 : Value) (d38 : Value) (d39 : Value) (d40 : Value) (d41 : Value) (d42 : Value) (d43 : Value) (d44 : Value) (d45 : Value) (d46 : Value) (d47 : Value) (d48 : Value) (d49 : Value) (d50 : Value) (d51 : Value) (d52 : Value) (d53 : Value) (d54 : Value) (d55 : Value) (p0 : Int32) : Met l yX12_isMan wsX12_isMan ({ frames := 1, cells := 0, slots := 0, locals := 22 }) (va_Pc [.ref h0, .int p0] (zPre dC dI cI cZ sz [(h0, .inr (12, [d0, d1, d2, d3, d4, d5, d6, d7, d8, d9, d10, d11, d12, d13, d14, d15, d16, d17, d18, d19, d20, d21, .int 0, d23, d24, d25, d26, d27, d28, d29, d30, d31, d32, d33, d34, d35, d36, d37, d38, d39, d40, d41, d42, d43, d44, d45, d46, d47, d48, d49, d50, d51, d52, d53, d54, d55]))])) (va_Qi (fun (r : Int32) (_ : Unit) => r = s_X12_isMan) (fun (_ : Unit) _ => True) (fun _ => False)) 0 0 (fun _ => False) := by
  refine Met.ofW (cc := cX12_isMan) (maxL := 2) (ret := (some .boolean)) (by decide) rfl ?_
  intro p e s m args below meth c s₁ B hml hv
  obtain ⟨rfl, hsz, hP, hK, hD0, hG⟩ := hv
  have hx := B.exec
  have hb := B.bytes
  have hr := B.returns
  have hts := atoms_spec (ws := wsX12_isMan) B.pre
  have hown : s.vm.findClass RX12 = some m.cls := findClass_of_methodNamed B.named
  have hlocks := B.notSynchronized
  have hinX12 : ∀ w ∈ wsX120, w ∈ wsX12_isMan := by decide +kernel
  subst hsz
  have hS : va_S (fun _ : Nat => False) s.heap s.heap [] := va_S.rf
  have hP : va_P (dC, dI) vwCl [(h0, .inr (12, [d0, d1, d2, d3, d4, d5, d6, d7, d8, d9, d10, d11, d12, d13, d14, d15, d16, d17, d18, d19, d20, d21, .int 0, d23, d24, d25, d26, d27, d28, d29, d30, d31, d32, d33, d34, d35, d36, d37, d38, d39, d40, d41, d42, d43, d44, d45, d46, d47, d48, d49, d50, d51, d52, d53, d54, d55]))] s.heap := hP
  have hl := lv_entry ([.ref h0, .int p0]) (n := 2) (Nat.le_of_ble_eq_true rfl)
  rw [lg_entry_eq]
  generalize (lg_sl ([.ref h0, .int p0]) ++ List.replicate (2 - (lg_sl ([.ref h0, .int p0])).length) Slot.unset).toArray = ls at hl ⊢
  have hl : lv_has ls 2 [(0, .ref h0), (1, .int p0)] := hl
  refine lv_iload_n hx hb dX12_isMan_0 rfl (lv_at hl 1 rfl) ?_
  refine lv_iconst (v := 0) hx hb dX12_isMan_1 (by decide) ?_
  refine lv_aload_n hx hb dX12_isMan_2 rfl (lv_at hl 0 rfl) ?_
  refine va_get (D := (dC, dI)) (ci := 12) (v := .int 0) (C := RX12) (T := TX12) (N := 56) hx hb hts hinX12 hown hK hP 0 rfl rfl 22 (by decide) (hts (.fieldLink RX12 270 "DreamGuardModel" "men" "I") (by decide +kernel)) (fun _ h9 => h9) rfl dX12_isMan_3 ?_
  refine lv_iconst (v := 1) hx hb dX12_isMan_6 (by decide) ?_
  refine lv_isub hx hb dX12_isMan_7 ?_
  refine lv_topi (fun k1 ek1 => ?_)
  obtain rfl : k1 = (-1) := ek1.trans (by decide)
  have hPc : va_P (dC, dI) vwCl [] _ := zNoP (H := s.heap)
  have hDc : va_D (fun _ : Nat => True) [] := zNoD
  refine va_calli (va_runS (As := [.int p0, .int 0, .int (-1)]) (rest := []) ⟨hx, hb, hml, hown, hts⟩ (c_X12_in l dC dI cI cZ s.heap.size p0 0 (-1)) (cwS 3 hts gX12_isMan_X12_in rfl rfl rfl (by decide +kernel) ⟨Nat.le_of_ble_eq_true rfl, Nat.le_of_ble_eq_true rfl⟩) (zPreS hPc hK hDc hG) rfl rfl hl.1 rfl (lv_room (Nat.le_of_ble_eq_true rfl)) dX12_isMan_8 ⟨Nat.le_of_ble_eq_true rfl, Nat.le_of_ble_eq_true rfl⟩) hS (fun _ _ h => h.elim) (fun _ h => h.elim) (fun r2 u9 t9 H1 locs ht9 hvm hwr2 hB9 hz1 hk1 hS => ?_)
  replace hP := zKept hP hk1
  try clear hB9 hz1 hk1 hvm ht9 u9 hPc hDc
  generalize H1 = H at hP hS ⊢
  obtain rfl : r2 = 0 := hwr2.trans (zs_in0 p0)
  exact W.zret (v := 0) hx hb hr rfl (fun t ht hW => ⟨⟨0, (), rfl, (by unfold s_X12_isMan; first | rfl | simp), trivial⟩, hS.F ht⟩) hS.2.2 dX12_isMan_11

def s_X12_isHour : Int32 := 0
set_option maxHeartbeats 4000000 in
set_option maxRecDepth 100000 in
theorem c_X12_isHour (l : Launch) (dC : Nat → ClassId) (dI : Nat → Nat → Nat) (cI cZ : ClassId) (sz : Nat) (h0 : Nat) (d0 : Value) (d1 : Value) (d2 : Value) (d3 : Value) (d4 : Value) (d5 : Value) (d6 : Value) (d7 : Value) (d8 : Value) (d9 : Value) (d10 : Value) (d11 : Value) (d12 : Value) (d13 : Value) (d14 : Value) (d15 : Value) (d16 : Value) (d17 : Value) (d18 : Value) (d19 : Value) (d20 : Value) (d21 : Value) (d23 : Value) (d24 : Value) (d25 : Value) (d26 : Value) (d27 : Value) (d28 : Value) (d29 : Value) (d30 : Value) (d31 : Value) (d32 : Value) (d33 : Value) (d34 : Value) (d35 : Value) (d36 : Value) (d37 : Value) (d38 : Value) (d39 : Value) (d40 : Value) (d41 : Value) (d42 : Value) (d43 : Value) (d44 : Value) (d45 : Value) (d46 : Value) (d47 : Value) (d48 : Value) (d49 : Value) (d50 : Value) (d51 : Value) (d52 : Value) (d53 : Value) (d54 : Value) (d55 : Value) (p0 : Int32) : Met l yX12_isHour wsX12_isHour ({ frames := 0, cells := 0, slots := 0, locals := 0 }) (va_Pc [.ref h0, .int p0] (zPre dC dI cI cZ sz [(h0, .inr (12, [d0, d1, d2, d3, d4, d5, d6, d7, d8, d9, d10, d11, d12, d13, d14, d15, d16, d17, d18, d19, d20, d21, .int 0, d23, d24, d25, d26, d27, d28, d29, d30, d31, d32, d33, d34, d35, d36, d37, d38, d39, d40, d41, d42, d43, d44, d45, d46, d47, d48, d49, d50, d51, d52, d53, d54, d55]))])) (va_Qi (fun (r : Int32) (_ : Unit) => r = s_X12_isHour) (fun (_ : Unit) _ => True) (fun _ => False)) 0 0 (fun _ => False) := by
  refine Met.ofW (cc := cX12_isHour) (maxL := 2) (ret := (some .boolean)) (by decide) rfl ?_
  intro p e s m args below meth c s₁ B hml hv
  obtain ⟨rfl, hsz, hP, hK, hD0, hG⟩ := hv
  have hx := B.exec
  have hb := B.bytes
  have hr := B.returns
  have hts := atoms_spec (ws := wsX12_isHour) B.pre
  have hown : s.vm.findClass RX12 = some m.cls := findClass_of_methodNamed B.named
  have hlocks := B.notSynchronized
  have hinX12 : ∀ w ∈ wsX120, w ∈ wsX12_isHour := by decide +kernel
  subst hsz
  have hS : va_S (fun _ : Nat => False) s.heap s.heap [] := va_S.rf
  have hP : va_P (dC, dI) vwCl [(h0, .inr (12, [d0, d1, d2, d3, d4, d5, d6, d7, d8, d9, d10, d11, d12, d13, d14, d15, d16, d17, d18, d19, d20, d21, .int 0, d23, d24, d25, d26, d27, d28, d29, d30, d31, d32, d33, d34, d35, d36, d37, d38, d39, d40, d41, d42, d43, d44, d45, d46, d47, d48, d49, d50, d51, d52, d53, d54, d55]))] s.heap := hP
  have hl := lv_entry ([.ref h0, .int p0]) (n := 2) (Nat.le_of_ble_eq_true rfl)
  rw [lg_entry_eq]
  generalize (lg_sl ([.ref h0, .int p0]) ++ List.replicate (2 - (lg_sl ([.ref h0, .int p0])).length) Slot.unset).toArray = ls at hl ⊢
  have hl : lv_has ls 2 [(0, .ref h0), (1, .int p0)] := hl
  refine lv_aload_n hx hb dX12_isHour_0 rfl (lv_at hl 0 rfl) ?_
  refine va_get (D := (dC, dI)) (ci := 12) (v := .int 0) (C := RX12) (T := TX12) (N := 56) hx hb hts hinX12 hown hK hP 0 rfl rfl 22 (by decide) (hts (.fieldLink RX12 270 "DreamGuardModel" "men" "I") (by decide +kernel)) (fun _ h9 => h9) rfl dX12_isHour_1 ?_
  refine lv_if_le (tgt := 27) hx hb dX12_isHour_4 (by decide) (fun _ => ?_) (fun c9 => absurd (by decide) c9)
  refine lv_iconst (v := 0) hx hb dX12_isHour_27 (by decide) ?_
  exact W.zret (v := 0) hx hb hr rfl (fun t ht hW => ⟨⟨0, (), rfl, (by unfold s_X12_isHour; first | rfl | simp), trivial⟩, hS.F ht⟩) hS.2.2 dX12_isHour_28

def s_X12_isMore : Int32 := 0
set_option maxHeartbeats 4000000 in
set_option maxRecDepth 100000 in
theorem c_X12_isMore (l : Launch) (dC : Nat → ClassId) (dI : Nat → Nat → Nat) (cI cZ : ClassId) (sz : Nat) (h0 : Nat) (d0 : Value) (d1 : Value) (d2 : Value) (d3 : Value) (d4 : Value) (d5 : Value) (d6 : Value) (d7 : Value) (d8 : Value) (d9 : Value) (d10 : Value) (d11 : Value) (d12 : Value) (d13 : Value) (d14 : Value) (d15 : Value) (d16 : Value) (d17 : Value) (d18 : Value) (d19 : Value) (d20 : Value) (d21 : Value) (d23 : Value) (d24 : Value) (d25 : Value) (d26 : Value) (d27 : Value) (d28 : Value) (d29 : Value) (d30 : Value) (d31 : Value) (d32 : Value) (d33 : Value) (d34 : Value) (d35 : Value) (d36 : Value) (d37 : Value) (d38 : Value) (d39 : Value) (d40 : Value) (d41 : Value) (d42 : Value) (d43 : Value) (d44 : Value) (d45 : Value) (d46 : Value) (d47 : Value) (d48 : Value) (d49 : Value) (d50 : Value) (d51 : Value) (d52 : Value) (d53 : Value) (d54 : Value) (d55 : Value) (p0 : Int32) : Met l yX12_isMore wsX12_isMore ({ frames := 0, cells := 0, slots := 0, locals := 0 }) (va_Pc [.ref h0, .int p0] (zPre dC dI cI cZ sz [(h0, .inr (12, [d0, d1, d2, d3, d4, d5, d6, d7, d8, d9, d10, d11, d12, d13, d14, d15, d16, d17, d18, d19, d20, d21, .int 0, d23, d24, d25, d26, d27, d28, d29, d30, d31, d32, d33, d34, d35, d36, d37, d38, d39, d40, d41, d42, d43, d44, d45, d46, d47, d48, d49, d50, d51, d52, d53, d54, d55]))])) (va_Qi (fun (r : Int32) (_ : Unit) => r = s_X12_isMore) (fun (_ : Unit) _ => True) (fun _ => False)) 0 0 (fun _ => False) := by
  refine Met.ofW (cc := cX12_isMore) (maxL := 2) (ret := (some .boolean)) (by decide) rfl ?_
  intro p e s m args below meth c s₁ B hml hv
  obtain ⟨rfl, hsz, hP, hK, hD0, hG⟩ := hv
  have hx := B.exec
  have hb := B.bytes
  have hr := B.returns
  have hts := atoms_spec (ws := wsX12_isMore) B.pre
  have hown : s.vm.findClass RX12 = some m.cls := findClass_of_methodNamed B.named
  have hlocks := B.notSynchronized
  have hinX12 : ∀ w ∈ wsX120, w ∈ wsX12_isMore := by decide +kernel
  subst hsz
  have hS : va_S (fun _ : Nat => False) s.heap s.heap [] := va_S.rf
  have hP : va_P (dC, dI) vwCl [(h0, .inr (12, [d0, d1, d2, d3, d4, d5, d6, d7, d8, d9, d10, d11, d12, d13, d14, d15, d16, d17, d18, d19, d20, d21, .int 0, d23, d24, d25, d26, d27, d28, d29, d30, d31, d32, d33, d34, d35, d36, d37, d38, d39, d40, d41, d42, d43, d44, d45, d46, d47, d48, d49, d50, d51, d52, d53, d54, d55]))] s.heap := hP
  have hl := lv_entry ([.ref h0, .int p0]) (n := 2) (Nat.le_of_ble_eq_true rfl)
  rw [lg_entry_eq]
  generalize (lg_sl ([.ref h0, .int p0]) ++ List.replicate (2 - (lg_sl ([.ref h0, .int p0])).length) Slot.unset).toArray = ls at hl ⊢
  have hl : lv_has ls 2 [(0, .ref h0), (1, .int p0)] := hl
  refine lv_aload_n hx hb dX12_isMore_0 rfl (lv_at hl 0 rfl) ?_
  refine va_get (D := (dC, dI)) (ci := 12) (v := .int 0) (C := RX12) (T := TX12) (N := 56) hx hb hts hinX12 hown hK hP 0 rfl rfl 22 (by decide) (hts (.fieldLink RX12 270 "DreamGuardModel" "men" "I") (by decide +kernel)) (fun _ h9 => h9) rfl dX12_isMore_1 ?_
  refine lv_if_le (tgt := 21) hx hb dX12_isMore_4 (by decide) (fun _ => ?_) (fun c9 => absurd (by decide) c9)
  refine lv_iconst (v := 0) hx hb dX12_isMore_21 (by decide) ?_
  exact W.zret (v := 0) hx hb hr rfl (fun t ht hW => ⟨⟨0, (), rfl, (by unfold s_X12_isMore; first | rfl | simp), trivial⟩, hS.F ht⟩) hS.2.2 dX12_isMore_22

def s_X12_areTwo : Int32 := 0
set_option maxHeartbeats 4000000 in
set_option maxRecDepth 100000 in
theorem c_X12_areTwo (l : Launch) (dC : Nat → ClassId) (dI : Nat → Nat → Nat) (cI cZ : ClassId) (sz : Nat) (h0 : Nat) (d0 : Value) (d1 : Value) (d2 : Value) (d3 : Value) (d4 : Value) (d5 : Value) (d6 : Value) (d7 : Value) (d8 : Value) (d9 : Value) (d10 : Value) (d11 : Value) (d12 : Value) (d13 : Value) (d14 : Value) (d15 : Value) (d16 : Value) (d17 : Value) (d18 : Value) (d19 : Value) (d20 : Value) (d21 : Value) (d23 : Value) (d24 : Value) (d25 : Value) (d26 : Value) (d27 : Value) (d28 : Value) (d29 : Value) (d30 : Value) (d31 : Value) (d32 : Value) (d33 : Value) (d34 : Value) (d35 : Value) (d36 : Value) (d37 : Value) (d38 : Value) (d39 : Value) (d40 : Value) (d41 : Value) (d42 : Value) (d43 : Value) (d44 : Value) (d45 : Value) (d46 : Value) (d47 : Value) (d48 : Value) (d49 : Value) (d50 : Value) (d51 : Value) (d52 : Value) (d53 : Value) (d54 : Value) (d55 : Value) (p0 : Int32) (p1 : Int32) : Met l yX12_areTwo wsX12_areTwo ({ frames := 2, cells := 0, slots := 0, locals := 43 }) (va_Pc [.ref h0, .int p0, .int p1] (zPre dC dI cI cZ sz [(h0, .inr (12, [d0, d1, d2, d3, d4, d5, d6, d7, d8, d9, d10, d11, d12, d13, d14, d15, d16, d17, d18, d19, d20, d21, .int 0, d23, d24, d25, d26, d27, d28, d29, d30, d31, d32, d33, d34, d35, d36, d37, d38, d39, d40, d41, d42, d43, d44, d45, d46, d47, d48, d49, d50, d51, d52, d53, d54, d55]))])) (va_Qi (fun (r : Int32) (_ : Unit) => r = s_X12_areTwo) (fun (_ : Unit) _ => True) (fun _ => False)) 0 0 (fun _ => False) := by
  refine Met.ofW (cc := cX12_areTwo) (maxL := 3) (ret := (some .boolean)) (by decide) rfl ?_
  intro p e s m args below meth c s₁ B hml hv
  obtain ⟨rfl, hsz, hP, hK, hD0, hG⟩ := hv
  have hx := B.exec
  have hb := B.bytes
  have hr := B.returns
  have hts := atoms_spec (ws := wsX12_areTwo) B.pre
  have hown : s.vm.findClass RX12 = some m.cls := findClass_of_methodNamed B.named
  have hlocks := B.notSynchronized
  subst hsz
  have hS : va_S (fun _ : Nat => False) s.heap s.heap [] := va_S.rf
  have hP : va_P (dC, dI) vwCl [(h0, .inr (12, [d0, d1, d2, d3, d4, d5, d6, d7, d8, d9, d10, d11, d12, d13, d14, d15, d16, d17, d18, d19, d20, d21, .int 0, d23, d24, d25, d26, d27, d28, d29, d30, d31, d32, d33, d34, d35, d36, d37, d38, d39, d40, d41, d42, d43, d44, d45, d46, d47, d48, d49, d50, d51, d52, d53, d54, d55]))] s.heap := hP
  have hl := lv_entry ([.ref h0, .int p0, .int p1]) (n := 3) (Nat.le_of_ble_eq_true rfl)
  rw [lg_entry_eq]
  generalize (lg_sl ([.ref h0, .int p0, .int p1]) ++ List.replicate (3 - (lg_sl ([.ref h0, .int p0, .int p1])).length) Slot.unset).toArray = ls at hl ⊢
  have hl : lv_has ls 3 [(0, .ref h0), (1, .int p0), (2, .int p1)] := hl
  refine lv_aload_n hx hb dX12_areTwo_0 rfl (lv_at hl 0 rfl) ?_
  refine lv_iload_n hx hb dX12_areTwo_1 rfl (lv_at hl 1 rfl) ?_
  have hPc := hP.sub (ws' := [(h0, .inr (12, [d0, d1, d2, d3, d4, d5, d6, d7, d8, d9, d10, d11, d12, d13, d14, d15, d16, d17, d18, d19, d20, d21, .int 0, d23, d24, d25, d26, d27, d28, d29, d30, d31, d32, d33, d34, d35, d36, d37, d38, d39, d40, d41, d42, d43, d44, d45, d46, d47, d48, d49, d50, d51, d52, d53, d54, d55]))]) [0] rfl
  have hDc := hD0.sub (ws' := [(h0, .inr (12, [d0, d1, d2, d3, d4, d5, d6, d7, d8, d9, d10, d11, d12, d13, d14, d15, d16, d17, d18, d19, d20, d21, .int 0, d23, d24, d25, d26, d27, d28, d29, d30, d31, d32, d33, d34, d35, d36, d37, d38, d39, d40, d41, d42, d43, d44, d45, d46, d47, d48, d49, d50, d51, d52, d53, d54, d55]))]) [0] (by decide) rfl
  refine va_calli (va_runV (As := [.int p0]) (rest := []) ⟨hx, hb, hml, hown, hts⟩ (c_X12_isMan l dC dI cI cZ s.heap.size h0 d0 d1 d2 d3 d4 d5 d6 d7 d8 d9 d10 d11 d12 d13 d14 d15 d16 d17 d18 d19 d20 d21 d23 d24 d25 d26 d27 d28 d29 d30 d31 d32 d33 d34 d35 d36 d37 d38 d39 d40 d41 d42 d43 d44 d45 d46 d47 d48 d49 d50 d51 d52 d53 d54 d55 p0) (cwV 1 hts gX12_areTwo_X12_isMan rfl rfl rfl (by decide +kernel) ⟨Nat.le_of_ble_eq_true rfl, Nat.le_of_ble_eq_true rfl⟩) (zPreV hPc hK hDc hG (ci := 12) (q0 := 0) rfl rfl) rfl rfl hl.1 rfl (lv_room (Nat.le_of_ble_eq_true rfl)) dX12_areTwo_2 ⟨Nat.le_of_ble_eq_true rfl, Nat.le_of_ble_eq_true rfl⟩) hS (fun _ _ h => h.elim) (fun _ h => h.elim) (fun r1 u9 t9 H1 locs ht9 hvm hwr1 hB9 hz1 hk1 hS => ?_)
  replace hP := zKept hP hk1
  try clear hB9 hz1 hk1 hvm ht9 u9 hPc hDc
  generalize H1 = H at hP hS ⊢
  obtain rfl : r1 = 0 := hwr1.trans rfl
  refine lv_if_eq (tgt := 25) hx hb dX12_areTwo_5 (by decide) (fun _ => ?_) (fun c9 => absurd (by decide) c9)
  refine lv_iconst (v := 0) hx hb dX12_areTwo_25 (by decide) ?_
  exact W.zret (v := 0) hx hb hr rfl (fun t ht hW => ⟨⟨0, (), rfl, (by unfold s_X12_areTwo; first | rfl | simp), trivial⟩, hS.F ht⟩) hS.2.2 dX12_areTwo_26

def s_X12_sumOf : Int32 := 0
set_option maxHeartbeats 4000000 in
set_option maxRecDepth 100000 in
theorem c_X12_sumOf (l : Launch) (dC : Nat → ClassId) (dI : Nat → Nat → Nat) (cI cZ : ClassId) (sz : Nat) (h0 : Nat) (d0 : Value) (d1 : Value) (d2 : Value) (d3 : Value) (d4 : Value) (d5 : Value) (d6 : Value) (d7 : Value) (d8 : Value) (d9 : Value) (d10 : Value) (d11 : Value) (d12 : Value) (d13 : Value) (d14 : Value) (d15 : Value) (d16 : Value) (d17 : Value) (d18 : Value) (d19 : Value) (d20 : Value) (d21 : Value) (d23 : Value) (d24 : Value) (d25 : Value) (d26 : Value) (d27 : Value) (d28 : Value) (d29 : Value) (d30 : Value) (d31 : Value) (d32 : Value) (d33 : Value) (d34 : Value) (d35 : Value) (d36 : Value) (d37 : Value) (d38 : Value) (d39 : Value) (d40 : Value) (d41 : Value) (d42 : Value) (d43 : Value) (d44 : Value) (d45 : Value) (d46 : Value) (d47 : Value) (d48 : Value) (d49 : Value) (d50 : Value) (d51 : Value) (d52 : Value) (d53 : Value) (d54 : Value) (d55 : Value) (p0 : Int32) : Met l yX12_sumOf wsX12_sumOf ({ frames := 0, cells := 0, slots := 0, locals := 0 }) (va_Pc [.ref h0, .int p0] (zPre dC dI cI cZ sz [(h0, .inr (12, [d0, d1, d2, d3, d4, d5, d6, d7, d8, d9, d10, d11, d12, d13, d14, d15, d16, d17, d18, d19, d20, d21, .int 0, d23, d24, d25, d26, d27, d28, d29, d30, d31, d32, d33, d34, d35, d36, d37, d38, d39, d40, d41, d42, d43, d44, d45, d46, d47, d48, d49, d50, d51, d52, d53, d54, d55]))])) (va_Qi (fun (r : Int32) (_ : Unit) => r = s_X12_sumOf) (fun (_ : Unit) _ => True) (fun _ => False)) 0 0 (fun _ => False) := by
  refine Met.ofW (cc := cX12_sumOf) (maxL := 4) (ret := (some .int)) (by decide) rfl ?_
  intro p e s m args below meth c s₁ B hml hv
  obtain ⟨rfl, hsz, hP, hK, hD0, hG⟩ := hv
  have hx := B.exec
  have hb := B.bytes
  have hr := B.returns
  have hts := atoms_spec (ws := wsX12_sumOf) B.pre
  have hown : s.vm.findClass RX12 = some m.cls := findClass_of_methodNamed B.named
  have hlocks := B.notSynchronized
  have hinX12 : ∀ w ∈ wsX120, w ∈ wsX12_sumOf := by decide +kernel
  subst hsz
  have hS : va_S (fun _ : Nat => False) s.heap s.heap [] := va_S.rf
  have hP : va_P (dC, dI) vwCl [(h0, .inr (12, [d0, d1, d2, d3, d4, d5, d6, d7, d8, d9, d10, d11, d12, d13, d14, d15, d16, d17, d18, d19, d20, d21, .int 0, d23, d24, d25, d26, d27, d28, d29, d30, d31, d32, d33, d34, d35, d36, d37, d38, d39, d40, d41, d42, d43, d44, d45, d46, d47, d48, d49, d50, d51, d52, d53, d54, d55]))] s.heap := hP
  have hl := lv_entry ([.ref h0, .int p0]) (n := 4) (Nat.le_of_ble_eq_true rfl)
  rw [lg_entry_eq]
  generalize (lg_sl ([.ref h0, .int p0]) ++ List.replicate (4 - (lg_sl ([.ref h0, .int p0])).length) Slot.unset).toArray = ls at hl ⊢
  have hl : lv_has ls 4 [(0, .ref h0), (1, .int p0)] := hl
  refine lv_iconst (v := 0) hx hb dX12_sumOf_0 (by decide) ?_
  refine lv_istore_n (lv' := [(2, .int 0), (0, .ref h0), (1, .int p0)]) hx hb dX12_sumOf_1 rfl hl (by decide) rfl (fun ls hl => ?_)
  refine lv_iconst (v := 0) hx hb dX12_sumOf_2 (by decide) ?_
  refine lv_istore_n (lv' := [(3, .int 0), (2, .int 0), (0, .ref h0), (1, .int p0)]) hx hb dX12_sumOf_3 rfl hl (by decide) rfl (fun ls hl => ?_)
  refine lv_iload_n hx hb dX12_sumOf_4 rfl (lv_at hl 0 rfl) ?_
  refine lv_aload_n hx hb dX12_sumOf_5 rfl (lv_at hl 2 rfl) ?_
  refine va_get (D := (dC, dI)) (ci := 12) (v := .int 0) (C := RX12) (T := TX12) (N := 56) hx hb hts hinX12 hown hK hP 0 rfl rfl 22 (by decide) (hts (.fieldLink RX12 270 "DreamGuardModel" "men" "I") (by decide +kernel)) (fun _ h9 => h9) rfl dX12_sumOf_6 ?_
  refine lv_icmp_ge (tgt := 29) hx hb dX12_sumOf_9 (by decide) (fun _ => ?_) (fun c9 => absurd (by decide) c9)
  refine lv_iload_n hx hb dX12_sumOf_29 rfl (lv_at hl 1 rfl) ?_
  exact W.iret (v := 0) hx hb hr (fun t ht hW => ⟨⟨0, (), rfl, (by unfold s_X12_sumOf; first | rfl | simp), trivial⟩, hS.F ht⟩) hS.2.2 dX12_sumOf_30

def s_X12_isRefused : Int32 := 1
set_option maxHeartbeats 4000000 in
set_option maxRecDepth 100000 in
theorem c_X12_isRefused (l : Launch) (dC : Nat → ClassId) (dI : Nat → Nat → Nat) (cI cZ : ClassId) (sz : Nat) (h0 : Nat) (h1 : Nat) (d0 : Value) (d1 : Value) (d2 : Value) (d3 : Value) (d4 : Value) (d5 : Value) (d6 : Value) (d7 : Value) (d8 : Value) (d9 : Value) (d10 : Value) (d11 : Value) (d12 : Value) (d13 : Value) (d14 : Value) (d15 : Value) (d16 : Value) (d17 : Value) (d18 : Value) (d19 : Value) (d20 : Value) (d21 : Value) (d22 : Value) (d23 : Value) (d25 : Value) (d26 : Value) (d27 : Value) (d28 : Value) (d29 : Value) (d30 : Value) (d31 : Value) (d32 : Value) (d33 : Value) (d34 : Value) (d35 : Value) (d36 : Value) (d37 : Value) (d38 : Value) (d39 : Value) (d40 : Value) (d41 : Value) (d42 : Value) (d43 : Value) (d44 : Value) (d45 : Value) (d46 : Value) (d47 : Value) (d48 : Value) (d49 : Value) (d50 : Value) (d51 : Value) (d52 : Value) (d53 : Value) (d54 : Value) (d55 : Value) : Met l yX12_isRefused wsX12_isRefused ({ frames := 0, cells := 0, slots := 0, locals := 0 }) (va_Pc [.ref h0, .int 0] (zPre dC dI cI cZ sz [(h0, .inr (12, [d0, d1, d2, d3, d4, d5, d6, d7, d8, d9, d10, d11, d12, d13, d14, d15, d16, d17, d18, d19, d20, d21, d22, d23, .ref h1, d25, d26, d27, d28, d29, d30, d31, d32, d33, d34, d35, d36, d37, d38, d39, d40, d41, d42, d43, d44, d45, d46, d47, d48, d49, d50, d51, d52, d53, d54, d55])), (h1, .inl (cI, 5, .inl (fun _ => 0)))])) (va_Qi (fun (r : Int32) (_ : Unit) => r = s_X12_isRefused) (fun (_ : Unit) _ => True) (va_A [(h0, .inr (12, [d0, d1, d2, d3, d4, d5, d6, d7, d8, d9, d10, d11, d12, d13, d14, d15, d16, d17, d18, d19, d20, d21, d22, d23, .ref h1, d25, d26, d27, d28, d29, d30, d31, d32, d33, d34, d35, d36, d37, d38, d39, d40, d41, d42, d43, d44, d45, d46, d47, d48, d49, d50, d51, d52, d53, d54, d55])), (h1, .inl (cI, 5, .inl (fun _ => 0)))] sz)) 0 0 (va_A [(h0, .inr (12, [d0, d1, d2, d3, d4, d5, d6, d7, d8, d9, d10, d11, d12, d13, d14, d15, d16, d17, d18, d19, d20, d21, d22, d23, .ref h1, d25, d26, d27, d28, d29, d30, d31, d32, d33, d34, d35, d36, d37, d38, d39, d40, d41, d42, d43, d44, d45, d46, d47, d48, d49, d50, d51, d52, d53, d54, d55])), (h1, .inl (cI, 5, .inl (fun _ => 0)))] sz) := by
  refine Met.ofW (cc := cX12_isRefused) (maxL := 2) (ret := (some .boolean)) (by decide) rfl ?_
  intro p e s m args below meth c s₁ B hml hv
  obtain ⟨rfl, hsz, hP, hK, hD0, hG⟩ := hv
  have hx := B.exec
  have hb := B.bytes
  have hr := B.returns
  have hts := atoms_spec (ws := wsX12_isRefused) B.pre
  have hown : s.vm.findClass RX12 = some m.cls := findClass_of_methodNamed B.named
  have hlocks := B.notSynchronized
  have hinX12 : ∀ w ∈ wsX120, w ∈ wsX12_isRefused := by decide +kernel
  subst hsz
  have hD := hD0.self (sz := s.heap.size)
  generalize hAe : va_A [(h0, .inr (12, [d0, d1, d2, d3, d4, d5, d6, d7, d8, d9, d10, d11, d12, d13, d14, d15, d16, d17, d18, d19, d20, d21, d22, d23, .ref h1, d25, d26, d27, d28, d29, d30, d31, d32, d33, d34, d35, d36, d37, d38, d39, d40, d41, d42, d43, d44, d45, d46, d47, d48, d49, d50, d51, d52, d53, d54, d55])), (h1, .inl (cI, 5, .inl (fun _ => 0)))] s.heap.size = A at hD ⊢
  have hA : ∀ q : Nat, s.heap.size ≤ q → A q := fun q h => by rw [← hAe]; exact Or.inr h
  have hS : va_S A s.heap s.heap [] := va_S.rf
  have hP : va_P (dC, dI) vwCl [(h0, .inr (12, [d0, d1, d2, d3, d4, d5, d6, d7, d8, d9, d10, d11, d12, d13, d14, d15, d16, d17, d18, d19, d20, d21, d22, d23, .ref h1, d25, d26, d27, d28, d29, d30, d31, d32, d33, d34, d35, d36, d37, d38, d39, d40, d41, d42, d43, d44, d45, d46, d47, d48, d49, d50, d51, d52, d53, d54, d55])), (h1, .inl (cI, 5, .inl (fun _ => 0)))] s.heap := hP
  have hl := lv_entry ([.ref h0, .int 0]) (n := 2) (Nat.le_of_ble_eq_true rfl)
  rw [lg_entry_eq]
  generalize (lg_sl ([.ref h0, .int 0]) ++ List.replicate (2 - (lg_sl ([.ref h0, .int 0])).length) Slot.unset).toArray = ls at hl ⊢
  have hl : lv_has ls 2 [(0, .ref h0), (1, .int 0)] := hl
  refine lv_iload_n hx hb dX12_isRefused_0 rfl (lv_at hl 1 rfl) ?_
  refine lv_iconst (v := (-1)) hx hb dX12_isRefused_1 (by decide) ?_
  refine lv_icmp_eq (tgt := 15) hx hb dX12_isRefused_2 (by decide) (fun c9 => absurd c9 (by decide)) (fun _ => ?_)
  refine lv_aload_n hx hb dX12_isRefused_5 rfl (lv_at hl 0 rfl) ?_
  refine va_get (D := (dC, dI)) (ci := 12) (v := .ref h1) (C := RX12) (T := TX12) (N := 56) hx hb hts hinX12 hown hK hP 0 rfl rfl 24 (by decide) (hts (.fieldLink RX12 55 "DreamGuardModel" "refused" "[I") (by decide +kernel)) (fun _ h9 => h9) rfl dX12_isRefused_6 ?_
  refine lv_iload_n hx hb dX12_isRefused_9 rfl (lv_at hl 1 rfl) ?_
  refine lv_dup2_11 hx hb dX12_isRefused_10 rfl rfl ?_
  refine va_iald (i := 0) hx hb hK hP 1 0 rfl rfl (show ¬ ((0 : Int32) < 0 ∨ 5 ≤ (0 : Int32).toNatClampNeg) by decide) dX12_isRefused_11 ?_
  refine lv_topi (fun k1 ek1 => ?_)
  obtain rfl : k1 = 0 := ek1.trans rfl
  refine lv_iconst (v := 1) hx hb dX12_isRefused_12 (by decide) ?_
  refine lv_iadd hx hb dX12_isRefused_13 ?_
  refine lv_topi (fun k2 ek2 => ?_)
  obtain rfl : k2 = 1 := ek2.trans (by decide)
  refine va_iast (i := 0) hx hb hK hP hD hS 1 0 rfl rfl (show ¬ ((0 : Int32) < 0 ∨ 5 ≤ (0 : Int32).toNatClampNeg) by decide) dX12_isRefused_14 (fun H locs hP hD hS => ?_)
  generalize hff3 : upd (fun _ => 0) (0 : Int32).toNatClampNeg 1 = f3 at hP hD
  have hP : va_P (dC, dI) vwCl [(h0, .inr (12, [d0, d1, d2, d3, d4, d5, d6, d7, d8, d9, d10, d11, d12, d13, d14, d15, d16, d17, d18, d19, d20, d21, d22, d23, .ref h1, d25, d26, d27, d28, d29, d30, d31, d32, d33, d34, d35, d36, d37, d38, d39, d40, d41, d42, d43, d44, d45, d46, d47, d48, d49, d50, d51, d52, d53, d54, d55])), (h1, .inl (cI, 5, .inl f3))] H := hP
  have hD : va_D A [(h0, .inr (12, [d0, d1, d2, d3, d4, d5, d6, d7, d8, d9, d10, d11, d12, d13, d14, d15, d16, d17, d18, d19, d20, d21, d22, d23, .ref h1, d25, d26, d27, d28, d29, d30, d31, d32, d33, d34, d35, d36, d37, d38, d39, d40, d41, d42, d43, d44, d45, d46, d47, d48, d49, d50, d51, d52, d53, d54, d55])), (h1, .inl (cI, 5, .inl f3))] := hD
  refine lv_iload_n hx hb dX12_isRefused_15 rfl (lv_at hl 1 rfl) ?_
  refine lv_iconst (v := (-1)) hx hb dX12_isRefused_16 (by decide) ?_
  refine lv_icmp_eq (tgt := 24) hx hb dX12_isRefused_17 (by decide) (fun c9 => absurd c9 (by decide)) (fun _ => ?_)
  refine lv_iconst (v := 1) hx hb dX12_isRefused_20 (by decide) ?_
  refine lv_goto (tgt := 25) hx hb dX12_isRefused_21 (by decide) ?_
  exact W.zret (v := 1) hx hb hr rfl (fun t ht hW => ⟨⟨1, (), rfl, (by unfold s_X12_isRefused; first | rfl | simp), trivial⟩, hS.F ht⟩) hS.2.2 dX12_isRefused_25

def s_X12_rule : Int32 := (-1)
set_option maxHeartbeats 4000000 in
set_option maxRecDepth 100000 in
theorem c_X12_rule (l : Launch) (dC : Nat → ClassId) (dI : Nat → Nat → Nat) (cI cZ : ClassId) (sz : Nat) (h0 : Nat) (d0 : Value) (d1 : Value) (d2 : Value) (d3 : Value) (d4 : Value) (d5 : Value) (d6 : Value) (d7 : Value) (d8 : Value) (d9 : Value) (d10 : Value) (d11 : Value) (d12 : Value) (d13 : Value) (d14 : Value) (d15 : Value) (d16 : Value) (d17 : Value) (d18 : Value) (d19 : Value) (d20 : Value) (d21 : Value) (d23 : Value) (d24 : Value) (d25 : Value) (d26 : Value) (d27 : Value) (d28 : Value) (d29 : Value) (d30 : Value) (d31 : Value) (d32 : Value) (d33 : Value) (d34 : Value) (d35 : Value) (d36 : Value) (d37 : Value) (d38 : Value) (d39 : Value) (d40 : Value) (d41 : Value) (d42 : Value) (d43 : Value) (d44 : Value) (d45 : Value) (d46 : Value) (d47 : Value) (d48 : Value) (d49 : Value) (d50 : Value) (d51 : Value) (d52 : Value) (d53 : Value) (d54 : Value) (d55 : Value) (p0 : Int32) : Met l yX12_rule wsX12_rule ({ frames := 0, cells := 0, slots := 0, locals := 0 }) (va_Pc [.ref h0, .int p0] (zPre dC dI cI cZ sz [(h0, .inr (12, [d0, d1, d2, d3, d4, d5, d6, d7, d8, d9, d10, d11, d12, d13, d14, d15, d16, d17, d18, d19, d20, d21, .int 0, d23, d24, d25, d26, d27, d28, d29, d30, d31, d32, d33, d34, d35, d36, d37, d38, d39, d40, d41, d42, d43, d44, d45, d46, d47, d48, d49, d50, d51, d52, d53, d54, d55]))])) (va_Qi (fun (r : Int32) (_ : Unit) => r = s_X12_rule) (fun (_ : Unit) _ => True) (fun _ => False)) 0 0 (fun _ => False) := by
  refine Met.ofW (cc := cX12_rule) (maxL := 2) (ret := (some .int)) (by decide) rfl ?_
  intro p e s m args below meth c s₁ B hml hv
  obtain ⟨rfl, hsz, hP, hK, hD0, hG⟩ := hv
  have hx := B.exec
  have hb := B.bytes
  have hr := B.returns
  have hts := atoms_spec (ws := wsX12_rule) B.pre
  have hown : s.vm.findClass RX12 = some m.cls := findClass_of_methodNamed B.named
  have hlocks := B.notSynchronized
  have hinX12 : ∀ w ∈ wsX120, w ∈ wsX12_rule := by decide +kernel
  subst hsz
  have hS : va_S (fun _ : Nat => False) s.heap s.heap [] := va_S.rf
  have hP : va_P (dC, dI) vwCl [(h0, .inr (12, [d0, d1, d2, d3, d4, d5, d6, d7, d8, d9, d10, d11, d12, d13, d14, d15, d16, d17, d18, d19, d20, d21, .int 0, d23, d24, d25, d26, d27, d28, d29, d30, d31, d32, d33, d34, d35, d36, d37, d38, d39, d40, d41, d42, d43, d44, d45, d46, d47, d48, d49, d50, d51, d52, d53, d54, d55]))] s.heap := hP
  have hl := lv_entry ([.ref h0, .int p0]) (n := 2) (Nat.le_of_ble_eq_true rfl)
  rw [lg_entry_eq]
  generalize (lg_sl ([.ref h0, .int p0]) ++ List.replicate (2 - (lg_sl ([.ref h0, .int p0])).length) Slot.unset).toArray = ls at hl ⊢
  have hl : lv_has ls 2 [(0, .ref h0), (1, .int p0)] := hl
  refine lv_aload_n hx hb dX12_rule_0 rfl (lv_at hl 0 rfl) ?_
  refine va_get (D := (dC, dI)) (ci := 12) (v := .int 0) (C := RX12) (T := TX12) (N := 56) hx hb hts hinX12 hown hK hP 0 rfl rfl 22 (by decide) (hts (.fieldLink RX12 270 "DreamGuardModel" "men" "I") (by decide +kernel)) (fun _ h9 => h9) rfl dX12_rule_1 ?_
  refine lv_if_eq (tgt := 16) hx hb dX12_rule_4 (by decide) (fun _ => ?_) (fun c9 => absurd (by decide) c9)
  refine lv_iconst (v := (-1)) hx hb dX12_rule_16 (by decide) ?_
  refine lv_goto (tgt := 41) hx hb dX12_rule_17 (by decide) ?_
  exact W.iret (v := (-1)) hx hb hr (fun t ht hW => ⟨⟨(-1), (), rfl, (by unfold s_X12_rule; first | rfl | simp), trivial⟩, hS.F ht⟩) hS.2.2 dX12_rule_41

def s_X12_years : Int32 := (-1)
set_option maxHeartbeats 4000000 in
set_option maxRecDepth 100000 in
theorem c_X12_years (l : Launch) (dC : Nat → ClassId) (dI : Nat → Nat → Nat) (cI cZ : ClassId) (sz : Nat) (h0 : Nat) (d0 : Value) (d1 : Value) (d2 : Value) (d3 : Value) (d4 : Value) (d5 : Value) (d6 : Value) (d7 : Value) (d8 : Value) (d9 : Value) (d10 : Value) (d11 : Value) (d12 : Value) (d13 : Value) (d14 : Value) (d15 : Value) (d16 : Value) (d17 : Value) (d18 : Value) (d19 : Value) (d20 : Value) (d21 : Value) (d23 : Value) (d24 : Value) (d25 : Value) (d26 : Value) (d27 : Value) (d28 : Value) (d29 : Value) (d30 : Value) (d31 : Value) (d32 : Value) (d33 : Value) (d34 : Value) (d35 : Value) (d36 : Value) (d37 : Value) (d38 : Value) (d39 : Value) (d40 : Value) (d41 : Value) (d42 : Value) (d43 : Value) (d44 : Value) (d45 : Value) (d46 : Value) (d47 : Value) (d48 : Value) (d49 : Value) (d50 : Value) (d51 : Value) (d52 : Value) (d53 : Value) (d54 : Value) (d55 : Value) (p0 : Int32) (p1 : Int64) : Met l yX12_years wsX12_years ({ frames := 0, cells := 0, slots := 0, locals := 0 }) (va_Pc [.ref h0, .int p0, .long p1] (zPre dC dI cI cZ sz [(h0, .inr (12, [d0, d1, d2, d3, d4, d5, d6, d7, d8, d9, d10, d11, d12, d13, d14, d15, d16, d17, d18, d19, d20, d21, .int 0, d23, d24, d25, d26, d27, d28, d29, d30, d31, d32, d33, d34, d35, d36, d37, d38, d39, d40, d41, d42, d43, d44, d45, d46, d47, d48, d49, d50, d51, d52, d53, d54, d55]))])) (va_Qi (fun (r : Int32) (_ : Unit) => r = s_X12_years) (fun (_ : Unit) _ => True) (fun _ => False)) 0 0 (fun _ => False) := by
  refine Met.ofW (cc := cX12_years) (maxL := 7) (ret := (some .int)) (by decide) rfl ?_
  intro p e s m args below meth c s₁ B hml hv
  obtain ⟨rfl, hsz, hP, hK, hD0, hG⟩ := hv
  have hx := B.exec
  have hb := B.bytes
  have hr := B.returns
  have hts := atoms_spec (ws := wsX12_years) B.pre
  have hown : s.vm.findClass RX12 = some m.cls := findClass_of_methodNamed B.named
  have hlocks := B.notSynchronized
  have hinX12 : ∀ w ∈ wsX120, w ∈ wsX12_years := by decide +kernel
  subst hsz
  have hS : va_S (fun _ : Nat => False) s.heap s.heap [] := va_S.rf
  have hP : va_P (dC, dI) vwCl [(h0, .inr (12, [d0, d1, d2, d3, d4, d5, d6, d7, d8, d9, d10, d11, d12, d13, d14, d15, d16, d17, d18, d19, d20, d21, .int 0, d23, d24, d25, d26, d27, d28, d29, d30, d31, d32, d33, d34, d35, d36, d37, d38, d39, d40, d41, d42, d43, d44, d45, d46, d47, d48, d49, d50, d51, d52, d53, d54, d55]))] s.heap := hP
  have hl := lv_entry ([.ref h0, .int p0, .long p1]) (n := 7) (Nat.le_of_ble_eq_true rfl)
  rw [lg_entry_eq]
  generalize (lg_sl ([.ref h0, .int p0, .long p1]) ++ List.replicate (7 - (lg_sl ([.ref h0, .int p0, .long p1])).length) Slot.unset).toArray = ls at hl ⊢
  have hl : lv_has ls 7 [(0, .ref h0), (1, .int p0), (2, .long p1)] := hl
  refine lv_aload_n hx hb dX12_years_0 rfl (lv_at hl 0 rfl) ?_
  refine va_get (D := (dC, dI)) (ci := 12) (v := .int 0) (C := RX12) (T := TX12) (N := 56) hx hb hts hinX12 hown hK hP 0 rfl rfl 22 (by decide) (hts (.fieldLink RX12 270 "DreamGuardModel" "men" "I") (by decide +kernel)) (fun _ h9 => h9) rfl dX12_years_1 ?_
  refine lv_if_eq (tgt := 15) hx hb dX12_years_4 (by decide) (fun _ => ?_) (fun c9 => absurd (by decide) c9)
  refine lv_iconst (v := (-1)) hx hb dX12_years_15 (by decide) ?_
  exact W.iret (v := (-1)) hx hb hr (fun t ht hW => ⟨⟨(-1), (), rfl, (by unfold s_X12_years; first | rfl | simp), trivial⟩, hS.F ht⟩) hS.2.2 dX12_years_16

def s_X12_night : Int32 := (-1)
set_option maxHeartbeats 4000000 in
set_option maxRecDepth 100000 in
theorem c_X12_night (l : Launch) (dC : Nat → ClassId) (dI : Nat → Nat → Nat) (cI cZ : ClassId) (sz : Nat) (h0 : Nat) (d0 : Value) (d1 : Value) (d2 : Value) (d3 : Value) (d4 : Value) (d5 : Value) (d6 : Value) (d7 : Value) (d8 : Value) (d9 : Value) (d10 : Value) (d11 : Value) (d12 : Value) (d13 : Value) (d14 : Value) (d15 : Value) (d16 : Value) (d17 : Value) (d18 : Value) (d19 : Value) (d20 : Value) (d21 : Value) (d23 : Value) (d24 : Value) (d25 : Value) (d26 : Value) (d27 : Value) (d28 : Value) (d29 : Value) (d30 : Value) (d31 : Value) (d32 : Value) (d33 : Value) (d34 : Value) (d35 : Value) (d36 : Value) (d37 : Value) (d38 : Value) (d39 : Value) (d40 : Value) (d41 : Value) (d42 : Value) (d43 : Value) (d44 : Value) (d45 : Value) (d46 : Value) (d47 : Value) (d48 : Value) (d49 : Value) (d50 : Value) (d51 : Value) (d52 : Value) (d53 : Value) (d54 : Value) (d55 : Value) (p0 : Int32) : Met l yX12_night wsX12_night ({ frames := 0, cells := 0, slots := 0, locals := 0 }) (va_Pc [.ref h0, .int p0] (zPre dC dI cI cZ sz [(h0, .inr (12, [d0, d1, d2, d3, d4, d5, d6, d7, d8, d9, d10, d11, d12, d13, d14, d15, d16, d17, d18, d19, d20, d21, .int 0, d23, d24, d25, d26, d27, d28, d29, d30, d31, d32, d33, d34, d35, d36, d37, d38, d39, d40, d41, d42, d43, d44, d45, d46, d47, d48, d49, d50, d51, d52, d53, d54, d55]))])) (va_Qi (fun (r : Int32) (_ : Unit) => r = s_X12_night) (fun (_ : Unit) _ => True) (fun _ => False)) 0 0 (fun _ => False) := by
  refine Met.ofW (cc := cX12_night) (maxL := 2) (ret := (some .int)) (by decide) rfl ?_
  intro p e s m args below meth c s₁ B hml hv
  obtain ⟨rfl, hsz, hP, hK, hD0, hG⟩ := hv
  have hx := B.exec
  have hb := B.bytes
  have hr := B.returns
  have hts := atoms_spec (ws := wsX12_night) B.pre
  have hown : s.vm.findClass RX12 = some m.cls := findClass_of_methodNamed B.named
  have hlocks := B.notSynchronized
  have hinX12 : ∀ w ∈ wsX120, w ∈ wsX12_night := by decide +kernel
  subst hsz
  have hS : va_S (fun _ : Nat => False) s.heap s.heap [] := va_S.rf
  have hP : va_P (dC, dI) vwCl [(h0, .inr (12, [d0, d1, d2, d3, d4, d5, d6, d7, d8, d9, d10, d11, d12, d13, d14, d15, d16, d17, d18, d19, d20, d21, .int 0, d23, d24, d25, d26, d27, d28, d29, d30, d31, d32, d33, d34, d35, d36, d37, d38, d39, d40, d41, d42, d43, d44, d45, d46, d47, d48, d49, d50, d51, d52, d53, d54, d55]))] s.heap := hP
  have hl := lv_entry ([.ref h0, .int p0]) (n := 2) (Nat.le_of_ble_eq_true rfl)
  rw [lg_entry_eq]
  generalize (lg_sl ([.ref h0, .int p0]) ++ List.replicate (2 - (lg_sl ([.ref h0, .int p0])).length) Slot.unset).toArray = ls at hl ⊢
  have hl : lv_has ls 2 [(0, .ref h0), (1, .int p0)] := hl
  refine lv_aload_n hx hb dX12_night_0 rfl (lv_at hl 0 rfl) ?_
  refine va_get (D := (dC, dI)) (ci := 12) (v := .int 0) (C := RX12) (T := TX12) (N := 56) hx hb hts hinX12 hown hK hP 0 rfl rfl 22 (by decide) (hts (.fieldLink RX12 270 "DreamGuardModel" "men" "I") (by decide +kernel)) (fun _ h9 => h9) rfl dX12_night_1 ?_
  refine lv_if_ne (tgt := 9) hx hb dX12_night_4 (by decide) (fun c9 => absurd (by decide) c9) (fun _ => ?_)
  refine lv_iconst (v := (-1)) hx hb dX12_night_7 (by decide) ?_
  exact W.iret (v := (-1)) hx hb hr (fun t ht hW => ⟨⟨(-1), (), rfl, (by unfold s_X12_night; first | rfl | simp), trivial⟩, hS.F ht⟩) hS.2.2 dX12_night_8

def s_X12_stagger : Int32 := (-1)
set_option maxHeartbeats 4000000 in
set_option maxRecDepth 100000 in
theorem c_X12_stagger (l : Launch) (dC : Nat → ClassId) (dI : Nat → Nat → Nat) (cI cZ : ClassId) (sz : Nat) (h0 : Nat) (d0 : Value) (d1 : Value) (d2 : Value) (d3 : Value) (d4 : Value) (d5 : Value) (d6 : Value) (d7 : Value) (d8 : Value) (d9 : Value) (d10 : Value) (d11 : Value) (d12 : Value) (d13 : Value) (d14 : Value) (d15 : Value) (d16 : Value) (d17 : Value) (d18 : Value) (d19 : Value) (d20 : Value) (d21 : Value) (d23 : Value) (d24 : Value) (d25 : Value) (d26 : Value) (d27 : Value) (d28 : Value) (d29 : Value) (d30 : Value) (d31 : Value) (d32 : Value) (d33 : Value) (d34 : Value) (d35 : Value) (d36 : Value) (d37 : Value) (d38 : Value) (d39 : Value) (d40 : Value) (d41 : Value) (d42 : Value) (d43 : Value) (d44 : Value) (d45 : Value) (d46 : Value) (d47 : Value) (d48 : Value) (d49 : Value) (d50 : Value) (d51 : Value) (d52 : Value) (d53 : Value) (d54 : Value) (d55 : Value) (p0 : Int32) : Met l yX12_stagger wsX12_stagger ({ frames := 0, cells := 0, slots := 0, locals := 0 }) (va_Pc [.ref h0, .int p0] (zPre dC dI cI cZ sz [(h0, .inr (12, [d0, d1, d2, d3, d4, d5, d6, d7, d8, d9, d10, d11, d12, d13, d14, d15, d16, d17, d18, d19, d20, d21, .int 0, d23, d24, d25, d26, d27, d28, d29, d30, d31, d32, d33, d34, d35, d36, d37, d38, d39, d40, d41, d42, d43, d44, d45, d46, d47, d48, d49, d50, d51, d52, d53, d54, d55]))])) (va_Qi (fun (r : Int32) (_ : Unit) => r = s_X12_stagger) (fun (_ : Unit) _ => True) (fun _ => False)) 0 0 (fun _ => False) := by
  refine Met.ofW (cc := cX12_stagger) (maxL := 2) (ret := (some .int)) (by decide) rfl ?_
  intro p e s m args below meth c s₁ B hml hv
  obtain ⟨rfl, hsz, hP, hK, hD0, hG⟩ := hv
  have hx := B.exec
  have hb := B.bytes
  have hr := B.returns
  have hts := atoms_spec (ws := wsX12_stagger) B.pre
  have hown : s.vm.findClass RX12 = some m.cls := findClass_of_methodNamed B.named
  have hlocks := B.notSynchronized
  have hinX12 : ∀ w ∈ wsX120, w ∈ wsX12_stagger := by decide +kernel
  subst hsz
  have hS : va_S (fun _ : Nat => False) s.heap s.heap [] := va_S.rf
  have hP : va_P (dC, dI) vwCl [(h0, .inr (12, [d0, d1, d2, d3, d4, d5, d6, d7, d8, d9, d10, d11, d12, d13, d14, d15, d16, d17, d18, d19, d20, d21, .int 0, d23, d24, d25, d26, d27, d28, d29, d30, d31, d32, d33, d34, d35, d36, d37, d38, d39, d40, d41, d42, d43, d44, d45, d46, d47, d48, d49, d50, d51, d52, d53, d54, d55]))] s.heap := hP
  have hl := lv_entry ([.ref h0, .int p0]) (n := 2) (Nat.le_of_ble_eq_true rfl)
  rw [lg_entry_eq]
  generalize (lg_sl ([.ref h0, .int p0]) ++ List.replicate (2 - (lg_sl ([.ref h0, .int p0])).length) Slot.unset).toArray = ls at hl ⊢
  have hl : lv_has ls 2 [(0, .ref h0), (1, .int p0)] := hl
  refine lv_aload_n hx hb dX12_stagger_0 rfl (lv_at hl 0 rfl) ?_
  refine va_get (D := (dC, dI)) (ci := 12) (v := .int 0) (C := RX12) (T := TX12) (N := 56) hx hb hts hinX12 hown hK hP 0 rfl rfl 22 (by decide) (hts (.fieldLink RX12 270 "DreamGuardModel" "men" "I") (by decide +kernel)) (fun _ h9 => h9) rfl dX12_stagger_1 ?_
  refine lv_if_eq (tgt := 16) hx hb dX12_stagger_4 (by decide) (fun _ => ?_) (fun c9 => absurd (by decide) c9)
  refine lv_iconst (v := (-1)) hx hb dX12_stagger_16 (by decide) ?_
  exact W.iret (v := (-1)) hx hb hr (fun t ht hW => ⟨⟨(-1), (), rfl, (by unfold s_X12_stagger; first | rfl | simp), trivial⟩, hS.F ht⟩) hS.2.2 dX12_stagger_17

def s_X12_ring : Int32 := (-1)
set_option maxHeartbeats 4000000 in
set_option maxRecDepth 100000 in
theorem c_X12_ring (l : Launch) (dC : Nat → ClassId) (dI : Nat → Nat → Nat) (cI cZ : ClassId) (sz : Nat) (h0 : Nat) (d0 : Value) (d1 : Value) (d2 : Value) (d3 : Value) (d4 : Value) (d5 : Value) (d6 : Value) (d7 : Value) (d8 : Value) (d9 : Value) (d10 : Value) (d11 : Value) (d12 : Value) (d13 : Value) (d14 : Value) (d15 : Value) (d16 : Value) (d17 : Value) (d18 : Value) (d19 : Value) (d20 : Value) (d21 : Value) (d23 : Value) (d24 : Value) (d25 : Value) (d26 : Value) (d27 : Value) (d28 : Value) (d29 : Value) (d30 : Value) (d31 : Value) (d32 : Value) (d33 : Value) (d34 : Value) (d35 : Value) (d36 : Value) (d37 : Value) (d38 : Value) (d39 : Value) (d40 : Value) (d41 : Value) (d42 : Value) (d43 : Value) (d44 : Value) (d45 : Value) (d46 : Value) (d47 : Value) (d48 : Value) (d49 : Value) (d50 : Value) (d51 : Value) (d52 : Value) (d53 : Value) (d54 : Value) (d55 : Value) (p0 : Int32) : Met l yX12_ring wsX12_ring ({ frames := 0, cells := 0, slots := 0, locals := 0 }) (va_Pc [.ref h0, .int p0] (zPre dC dI cI cZ sz [(h0, .inr (12, [d0, d1, d2, d3, d4, d5, d6, d7, d8, d9, d10, d11, d12, d13, d14, d15, d16, d17, d18, d19, d20, d21, .int 0, d23, d24, d25, d26, d27, d28, d29, d30, d31, d32, d33, d34, d35, d36, d37, d38, d39, d40, d41, d42, d43, d44, d45, d46, d47, d48, d49, d50, d51, d52, d53, d54, d55]))])) (va_Qi (fun (r : Int32) (_ : Unit) => r = s_X12_ring) (fun (_ : Unit) _ => True) (fun _ => False)) 0 0 (fun _ => False) := by
  refine Met.ofW (cc := cX12_ring) (maxL := 4) (ret := (some .int)) (by decide) rfl ?_
  intro p e s m args below meth c s₁ B hml hv
  obtain ⟨rfl, hsz, hP, hK, hD0, hG⟩ := hv
  have hx := B.exec
  have hb := B.bytes
  have hr := B.returns
  have hts := atoms_spec (ws := wsX12_ring) B.pre
  have hown : s.vm.findClass RX12 = some m.cls := findClass_of_methodNamed B.named
  have hlocks := B.notSynchronized
  have hinX12 : ∀ w ∈ wsX120, w ∈ wsX12_ring := by decide +kernel
  subst hsz
  have hS : va_S (fun _ : Nat => False) s.heap s.heap [] := va_S.rf
  have hP : va_P (dC, dI) vwCl [(h0, .inr (12, [d0, d1, d2, d3, d4, d5, d6, d7, d8, d9, d10, d11, d12, d13, d14, d15, d16, d17, d18, d19, d20, d21, .int 0, d23, d24, d25, d26, d27, d28, d29, d30, d31, d32, d33, d34, d35, d36, d37, d38, d39, d40, d41, d42, d43, d44, d45, d46, d47, d48, d49, d50, d51, d52, d53, d54, d55]))] s.heap := hP
  have hl := lv_entry ([.ref h0, .int p0]) (n := 4) (Nat.le_of_ble_eq_true rfl)
  rw [lg_entry_eq]
  generalize (lg_sl ([.ref h0, .int p0]) ++ List.replicate (4 - (lg_sl ([.ref h0, .int p0])).length) Slot.unset).toArray = ls at hl ⊢
  have hl : lv_has ls 4 [(0, .ref h0), (1, .int p0)] := hl
  refine lv_aload_n hx hb dX12_ring_0 rfl (lv_at hl 0 rfl) ?_
  refine va_get (D := (dC, dI)) (ci := 12) (v := .int 0) (C := RX12) (T := TX12) (N := 56) hx hb hts hinX12 hown hK hP 0 rfl rfl 22 (by decide) (hts (.fieldLink RX12 270 "DreamGuardModel" "men" "I") (by decide +kernel)) (fun _ h9 => h9) rfl dX12_ring_1 ?_
  refine lv_if_eq (tgt := 16) hx hb dX12_ring_4 (by decide) (fun _ => ?_) (fun c9 => absurd (by decide) c9)
  refine lv_iconst (v := (-1)) hx hb dX12_ring_16 (by decide) ?_
  exact W.iret (v := (-1)) hx hb hr (fun t ht hW => ⟨⟨(-1), (), rfl, (by unfold s_X12_ring; first | rfl | simp), trivial⟩, hS.F ht⟩) hS.2.2 dX12_ring_17

def s_X12_liars : Int32 := (-1)
set_option maxHeartbeats 4000000 in
set_option maxRecDepth 100000 in
theorem c_X12_liars (l : Launch) (dC : Nat → ClassId) (dI : Nat → Nat → Nat) (cI cZ : ClassId) (sz : Nat) (h0 : Nat) (d0 : Value) (d1 : Value) (d2 : Value) (d3 : Value) (d4 : Value) (d5 : Value) (d6 : Value) (d7 : Value) (d8 : Value) (d9 : Value) (d10 : Value) (d11 : Value) (d12 : Value) (d13 : Value) (d14 : Value) (d15 : Value) (d16 : Value) (d17 : Value) (d18 : Value) (d19 : Value) (d20 : Value) (d21 : Value) (d23 : Value) (d24 : Value) (d25 : Value) (d26 : Value) (d27 : Value) (d28 : Value) (d29 : Value) (d30 : Value) (d31 : Value) (d32 : Value) (d33 : Value) (d34 : Value) (d35 : Value) (d36 : Value) (d37 : Value) (d38 : Value) (d39 : Value) (d40 : Value) (d41 : Value) (d42 : Value) (d43 : Value) (d44 : Value) (d45 : Value) (d46 : Value) (d47 : Value) (d48 : Value) (d49 : Value) (d50 : Value) (d51 : Value) (d52 : Value) (d53 : Value) (d54 : Value) (d55 : Value) : Met l yX12_liars wsX12_liars ({ frames := 0, cells := 0, slots := 0, locals := 0 }) (va_Pc [.ref h0] (zPre dC dI cI cZ sz [(h0, .inr (12, [d0, d1, d2, d3, d4, d5, d6, d7, d8, d9, d10, d11, d12, d13, d14, d15, d16, d17, d18, d19, d20, d21, .int 0, d23, d24, d25, d26, d27, d28, d29, d30, d31, d32, d33, d34, d35, d36, d37, d38, d39, d40, d41, d42, d43, d44, d45, d46, d47, d48, d49, d50, d51, d52, d53, d54, d55]))])) (va_Qi (fun (r : Int32) (_ : Unit) => r = s_X12_liars) (fun (_ : Unit) _ => True) (fun _ => False)) 0 0 (fun _ => False) := by
  refine Met.ofW (cc := cX12_liars) (maxL := 3) (ret := (some .int)) (by decide) rfl ?_
  intro p e s m args below meth c s₁ B hml hv
  obtain ⟨rfl, hsz, hP, hK, hD0, hG⟩ := hv
  have hx := B.exec
  have hb := B.bytes
  have hr := B.returns
  have hts := atoms_spec (ws := wsX12_liars) B.pre
  have hown : s.vm.findClass RX12 = some m.cls := findClass_of_methodNamed B.named
  have hlocks := B.notSynchronized
  have hinX12 : ∀ w ∈ wsX120, w ∈ wsX12_liars := by decide +kernel
  subst hsz
  have hS : va_S (fun _ : Nat => False) s.heap s.heap [] := va_S.rf
  have hP : va_P (dC, dI) vwCl [(h0, .inr (12, [d0, d1, d2, d3, d4, d5, d6, d7, d8, d9, d10, d11, d12, d13, d14, d15, d16, d17, d18, d19, d20, d21, .int 0, d23, d24, d25, d26, d27, d28, d29, d30, d31, d32, d33, d34, d35, d36, d37, d38, d39, d40, d41, d42, d43, d44, d45, d46, d47, d48, d49, d50, d51, d52, d53, d54, d55]))] s.heap := hP
  have hl := lv_entry ([.ref h0]) (n := 3) (Nat.le_of_ble_eq_true rfl)
  rw [lg_entry_eq]
  generalize (lg_sl ([.ref h0]) ++ List.replicate (3 - (lg_sl ([.ref h0])).length) Slot.unset).toArray = ls at hl ⊢
  have hl : lv_has ls 3 [(0, .ref h0)] := hl
  refine lv_aload_n hx hb dX12_liars_0 rfl (lv_at hl 0 rfl) ?_
  refine va_get (D := (dC, dI)) (ci := 12) (v := .int 0) (C := RX12) (T := TX12) (N := 56) hx hb hts hinX12 hown hK hP 0 rfl rfl 22 (by decide) (hts (.fieldLink RX12 270 "DreamGuardModel" "men" "I") (by decide +kernel)) (fun _ h9 => h9) rfl dX12_liars_1 ?_
  refine lv_if_ne (tgt := 9) hx hb dX12_liars_4 (by decide) (fun c9 => absurd (by decide) c9) (fun _ => ?_)
  refine lv_iconst (v := (-1)) hx hb dX12_liars_7 (by decide) ?_
  exact W.iret (v := (-1)) hx hb hr (fun t ht hW => ⟨⟨(-1), (), rfl, (by unfold s_X12_liars; first | rfl | simp), trivial⟩, hS.F ht⟩) hS.2.2 dX12_liars_8

def s_X12_odds : Int32 := (-1)
set_option maxHeartbeats 4000000 in
set_option maxRecDepth 100000 in
theorem c_X12_odds (l : Launch) (dC : Nat → ClassId) (dI : Nat → Nat → Nat) (cI cZ : ClassId) (sz : Nat) (h0 : Nat) (d0 : Value) (d1 : Value) (d2 : Value) (d3 : Value) (d4 : Value) (d5 : Value) (d6 : Value) (d7 : Value) (d8 : Value) (d9 : Value) (d10 : Value) (d11 : Value) (d12 : Value) (d13 : Value) (d14 : Value) (d15 : Value) (d16 : Value) (d17 : Value) (d18 : Value) (d19 : Value) (d20 : Value) (d21 : Value) (d23 : Value) (d24 : Value) (d25 : Value) (d26 : Value) (d27 : Value) (d28 : Value) (d29 : Value) (d30 : Value) (d31 : Value) (d32 : Value) (d33 : Value) (d34 : Value) (d35 : Value) (d36 : Value) (d37 : Value) (d38 : Value) (d39 : Value) (d40 : Value) (d41 : Value) (d42 : Value) (d43 : Value) (d44 : Value) (d45 : Value) (d46 : Value) (d47 : Value) (d48 : Value) (d49 : Value) (d50 : Value) (d51 : Value) (d52 : Value) (d53 : Value) (d54 : Value) (d55 : Value) (p0 : Int32) : Met l yX12_odds wsX12_odds ({ frames := 0, cells := 0, slots := 0, locals := 0 }) (va_Pc [.ref h0, .int p0] (zPre dC dI cI cZ sz [(h0, .inr (12, [d0, d1, d2, d3, d4, d5, d6, d7, d8, d9, d10, d11, d12, d13, d14, d15, d16, d17, d18, d19, d20, d21, .int 0, d23, d24, d25, d26, d27, d28, d29, d30, d31, d32, d33, d34, d35, d36, d37, d38, d39, d40, d41, d42, d43, d44, d45, d46, d47, d48, d49, d50, d51, d52, d53, d54, d55]))])) (va_Qi (fun (r : Int32) (_ : Unit) => r = s_X12_odds) (fun (_ : Unit) _ => True) (fun _ => False)) 0 0 (fun _ => False) := by
  refine Met.ofW (cc := cX12_odds) (maxL := 5) (ret := (some .int)) (by decide) rfl ?_
  intro p e s m args below meth c s₁ B hml hv
  obtain ⟨rfl, hsz, hP, hK, hD0, hG⟩ := hv
  have hx := B.exec
  have hb := B.bytes
  have hr := B.returns
  have hts := atoms_spec (ws := wsX12_odds) B.pre
  have hown : s.vm.findClass RX12 = some m.cls := findClass_of_methodNamed B.named
  have hlocks := B.notSynchronized
  have hinX12 : ∀ w ∈ wsX120, w ∈ wsX12_odds := by decide +kernel
  subst hsz
  have hS : va_S (fun _ : Nat => False) s.heap s.heap [] := va_S.rf
  have hP : va_P (dC, dI) vwCl [(h0, .inr (12, [d0, d1, d2, d3, d4, d5, d6, d7, d8, d9, d10, d11, d12, d13, d14, d15, d16, d17, d18, d19, d20, d21, .int 0, d23, d24, d25, d26, d27, d28, d29, d30, d31, d32, d33, d34, d35, d36, d37, d38, d39, d40, d41, d42, d43, d44, d45, d46, d47, d48, d49, d50, d51, d52, d53, d54, d55]))] s.heap := hP
  have hl := lv_entry ([.ref h0, .int p0]) (n := 5) (Nat.le_of_ble_eq_true rfl)
  rw [lg_entry_eq]
  generalize (lg_sl ([.ref h0, .int p0]) ++ List.replicate (5 - (lg_sl ([.ref h0, .int p0])).length) Slot.unset).toArray = ls at hl ⊢
  have hl : lv_has ls 5 [(0, .ref h0), (1, .int p0)] := hl
  refine lv_aload_n hx hb dX12_odds_0 rfl (lv_at hl 0 rfl) ?_
  refine va_get (D := (dC, dI)) (ci := 12) (v := .int 0) (C := RX12) (T := TX12) (N := 56) hx hb hts hinX12 hown hK hP 0 rfl rfl 22 (by decide) (hts (.fieldLink RX12 270 "DreamGuardModel" "men" "I") (by decide +kernel)) (fun _ h9 => h9) rfl dX12_odds_1 ?_
  refine lv_if_eq (tgt := 17) hx hb dX12_odds_4 (by decide) (fun _ => ?_) (fun c9 => absurd (by decide) c9)
  refine lv_iconst (v := (-1)) hx hb dX12_odds_17 (by decide) ?_
  exact W.iret (v := (-1)) hx hb hr (fun t ht hW => ⟨⟨(-1), (), rfl, (by unfold s_X12_odds; first | rfl | simp), trivial⟩, hS.F ht⟩) hS.2.2 dX12_odds_18

def s_X12_most : Int32 := (-1)
set_option maxHeartbeats 4000000 in
set_option maxRecDepth 100000 in
theorem c_X12_most (l : Launch) (dC : Nat → ClassId) (dI : Nat → Nat → Nat) (cI cZ : ClassId) (sz : Nat) (h0 : Nat) (d0 : Value) (d1 : Value) (d2 : Value) (d3 : Value) (d4 : Value) (d5 : Value) (d6 : Value) (d7 : Value) (d8 : Value) (d9 : Value) (d10 : Value) (d11 : Value) (d12 : Value) (d13 : Value) (d14 : Value) (d15 : Value) (d16 : Value) (d17 : Value) (d18 : Value) (d19 : Value) (d20 : Value) (d21 : Value) (d23 : Value) (d24 : Value) (d25 : Value) (d26 : Value) (d27 : Value) (d28 : Value) (d29 : Value) (d30 : Value) (d31 : Value) (d32 : Value) (d33 : Value) (d34 : Value) (d35 : Value) (d36 : Value) (d37 : Value) (d38 : Value) (d39 : Value) (d40 : Value) (d41 : Value) (d42 : Value) (d43 : Value) (d44 : Value) (d45 : Value) (d46 : Value) (d47 : Value) (d48 : Value) (d49 : Value) (d50 : Value) (d51 : Value) (d52 : Value) (d53 : Value) (d54 : Value) (d55 : Value) (p0 : Int32) : Met l yX12_most wsX12_most ({ frames := 0, cells := 0, slots := 0, locals := 0 }) (va_Pc [.ref h0, .int p0] (zPre dC dI cI cZ sz [(h0, .inr (12, [d0, d1, d2, d3, d4, d5, d6, d7, d8, d9, d10, d11, d12, d13, d14, d15, d16, d17, d18, d19, d20, d21, .int 0, d23, d24, d25, d26, d27, d28, d29, d30, d31, d32, d33, d34, d35, d36, d37, d38, d39, d40, d41, d42, d43, d44, d45, d46, d47, d48, d49, d50, d51, d52, d53, d54, d55]))])) (va_Qi (fun (r : Int32) (_ : Unit) => r = s_X12_most) (fun (_ : Unit) _ => True) (fun _ => False)) 0 0 (fun _ => False) := by
  refine Met.ofW (cc := cX12_most) (maxL := 2) (ret := (some .int)) (by decide) rfl ?_
  intro p e s m args below meth c s₁ B hml hv
  obtain ⟨rfl, hsz, hP, hK, hD0, hG⟩ := hv
  have hx := B.exec
  have hb := B.bytes
  have hr := B.returns
  have hts := atoms_spec (ws := wsX12_most) B.pre
  have hown : s.vm.findClass RX12 = some m.cls := findClass_of_methodNamed B.named
  have hlocks := B.notSynchronized
  have hinX12 : ∀ w ∈ wsX120, w ∈ wsX12_most := by decide +kernel
  subst hsz
  have hS : va_S (fun _ : Nat => False) s.heap s.heap [] := va_S.rf
  have hP : va_P (dC, dI) vwCl [(h0, .inr (12, [d0, d1, d2, d3, d4, d5, d6, d7, d8, d9, d10, d11, d12, d13, d14, d15, d16, d17, d18, d19, d20, d21, .int 0, d23, d24, d25, d26, d27, d28, d29, d30, d31, d32, d33, d34, d35, d36, d37, d38, d39, d40, d41, d42, d43, d44, d45, d46, d47, d48, d49, d50, d51, d52, d53, d54, d55]))] s.heap := hP
  have hl := lv_entry ([.ref h0, .int p0]) (n := 2) (Nat.le_of_ble_eq_true rfl)
  rw [lg_entry_eq]
  generalize (lg_sl ([.ref h0, .int p0]) ++ List.replicate (2 - (lg_sl ([.ref h0, .int p0])).length) Slot.unset).toArray = ls at hl ⊢
  have hl : lv_has ls 2 [(0, .ref h0), (1, .int p0)] := hl
  refine lv_aload_n hx hb dX12_most_0 rfl (lv_at hl 0 rfl) ?_
  refine va_get (D := (dC, dI)) (ci := 12) (v := .int 0) (C := RX12) (T := TX12) (N := 56) hx hb hts hinX12 hown hK hP 0 rfl rfl 22 (by decide) (hts (.fieldLink RX12 270 "DreamGuardModel" "men" "I") (by decide +kernel)) (fun _ h9 => h9) rfl dX12_most_1 ?_
  refine lv_if_ne (tgt := 9) hx hb dX12_most_4 (by decide) (fun c9 => absurd (by decide) c9) (fun _ => ?_)
  refine lv_iconst (v := (-1)) hx hb dX12_most_7 (by decide) ?_
  exact W.iret (v := (-1)) hx hb hr (fun t ht hW => ⟨⟨(-1), (), rfl, (by unfold s_X12_most; first | rfl | simp), trivial⟩, hS.F ht⟩) hS.2.2 dX12_most_8

def s_X12_image : Int32 := (-1)
set_option maxHeartbeats 4000000 in
set_option maxRecDepth 100000 in
theorem c_X12_image (l : Launch) (dC : Nat → ClassId) (dI : Nat → Nat → Nat) (cI cZ : ClassId) (sz : Nat) (h0 : Nat) (d0 : Value) (d1 : Value) (d2 : Value) (d3 : Value) (d4 : Value) (d5 : Value) (d6 : Value) (d7 : Value) (d8 : Value) (d9 : Value) (d10 : Value) (d11 : Value) (d12 : Value) (d13 : Value) (d14 : Value) (d15 : Value) (d16 : Value) (d17 : Value) (d18 : Value) (d19 : Value) (d20 : Value) (d21 : Value) (d23 : Value) (d24 : Value) (d25 : Value) (d26 : Value) (d27 : Value) (d28 : Value) (d29 : Value) (d30 : Value) (d31 : Value) (d32 : Value) (d33 : Value) (d34 : Value) (d35 : Value) (d36 : Value) (d37 : Value) (d38 : Value) (d39 : Value) (d40 : Value) (d41 : Value) (d42 : Value) (d43 : Value) (d44 : Value) (d45 : Value) (d46 : Value) (d47 : Value) (d48 : Value) (d49 : Value) (d50 : Value) (d51 : Value) (d52 : Value) (d53 : Value) (d54 : Value) (d55 : Value) : Met l yX12_image wsX12_image ({ frames := 0, cells := 0, slots := 0, locals := 0 }) (va_Pc [.ref h0] (zPre dC dI cI cZ sz [(h0, .inr (12, [d0, d1, d2, d3, d4, d5, d6, d7, d8, d9, d10, d11, d12, d13, d14, d15, d16, d17, d18, d19, d20, d21, .int 0, d23, d24, d25, d26, d27, d28, d29, d30, d31, d32, d33, d34, d35, d36, d37, d38, d39, d40, d41, d42, d43, d44, d45, d46, d47, d48, d49, d50, d51, d52, d53, d54, d55]))])) (va_Qi (fun (r : Int32) (_ : Unit) => r = s_X12_image) (fun (_ : Unit) _ => True) (fun _ => False)) 0 0 (fun _ => False) := by
  refine Met.ofW (cc := cX12_image) (maxL := 2) (ret := (some .int)) (by decide) rfl ?_
  intro p e s m args below meth c s₁ B hml hv
  obtain ⟨rfl, hsz, hP, hK, hD0, hG⟩ := hv
  have hx := B.exec
  have hb := B.bytes
  have hr := B.returns
  have hts := atoms_spec (ws := wsX12_image) B.pre
  have hown : s.vm.findClass RX12 = some m.cls := findClass_of_methodNamed B.named
  have hlocks := B.notSynchronized
  have hinX12 : ∀ w ∈ wsX120, w ∈ wsX12_image := by decide +kernel
  subst hsz
  have hS : va_S (fun _ : Nat => False) s.heap s.heap [] := va_S.rf
  have hP : va_P (dC, dI) vwCl [(h0, .inr (12, [d0, d1, d2, d3, d4, d5, d6, d7, d8, d9, d10, d11, d12, d13, d14, d15, d16, d17, d18, d19, d20, d21, .int 0, d23, d24, d25, d26, d27, d28, d29, d30, d31, d32, d33, d34, d35, d36, d37, d38, d39, d40, d41, d42, d43, d44, d45, d46, d47, d48, d49, d50, d51, d52, d53, d54, d55]))] s.heap := hP
  have hl := lv_entry ([.ref h0]) (n := 2) (Nat.le_of_ble_eq_true rfl)
  rw [lg_entry_eq]
  generalize (lg_sl ([.ref h0]) ++ List.replicate (2 - (lg_sl ([.ref h0])).length) Slot.unset).toArray = ls at hl ⊢
  have hl : lv_has ls 2 [(0, .ref h0)] := hl
  refine lv_aload_n hx hb dX12_image_0 rfl (lv_at hl 0 rfl) ?_
  refine va_get (D := (dC, dI)) (ci := 12) (v := .int 0) (C := RX12) (T := TX12) (N := 56) hx hb hts hinX12 hown hK hP 0 rfl rfl 22 (by decide) (hts (.fieldLink RX12 270 "DreamGuardModel" "men" "I") (by decide +kernel)) (fun _ h9 => h9) rfl dX12_image_1 ?_
  refine lv_if_ne (tgt := 9) hx hb dX12_image_4 (by decide) (fun c9 => absurd (by decide) c9) (fun _ => ?_)
  refine lv_iconst (v := (-1)) hx hb dX12_image_7 (by decide) ?_
  exact W.iret (v := (-1)) hx hb hr (fun t ht hW => ⟨⟨(-1), (), rfl, (by unfold s_X12_image; first | rfl | simp), trivial⟩, hS.F ht⟩) hS.2.2 dX12_image_8

def s_X12_dream : Int32 := (-1)
set_option maxHeartbeats 4000000 in
set_option maxRecDepth 100000 in
theorem c_X12_dream (l : Launch) (dC : Nat → ClassId) (dI : Nat → Nat → Nat) (cI cZ : ClassId) (sz : Nat) (h0 : Nat) (d0 : Value) (d1 : Value) (d2 : Value) (d3 : Value) (d4 : Value) (d5 : Value) (d6 : Value) (d7 : Value) (d8 : Value) (d9 : Value) (d10 : Value) (d11 : Value) (d12 : Value) (d13 : Value) (d14 : Value) (d15 : Value) (d16 : Value) (d17 : Value) (d18 : Value) (d19 : Value) (d20 : Value) (d21 : Value) (d23 : Value) (d24 : Value) (d25 : Value) (d26 : Value) (d27 : Value) (d28 : Value) (d29 : Value) (d30 : Value) (d31 : Value) (d32 : Value) (d33 : Value) (d34 : Value) (d35 : Value) (d36 : Value) (d37 : Value) (d38 : Value) (d39 : Value) (d40 : Value) (d41 : Value) (d42 : Value) (d43 : Value) (d44 : Value) (d45 : Value) (d46 : Value) (d47 : Value) (d48 : Value) (d49 : Value) (d50 : Value) (d51 : Value) (d52 : Value) (d53 : Value) (d54 : Value) (d55 : Value) (p0 : Int32) (p1 : Int32) : Met l yX12_dream wsX12_dream ({ frames := 2, cells := 0, slots := 0, locals := 43 }) (va_Pc [.ref h0, .int p0, .int p1] (zPre dC dI cI cZ sz [(h0, .inr (12, [d0, d1, d2, d3, d4, d5, d6, d7, d8, d9, d10, d11, d12, d13, d14, d15, d16, d17, d18, d19, d20, d21, .int 0, d23, d24, d25, d26, d27, d28, d29, d30, d31, d32, d33, d34, d35, d36, d37, d38, d39, d40, d41, d42, d43, d44, d45, d46, d47, d48, d49, d50, d51, d52, d53, d54, d55]))])) (va_Qi (fun (r : Int32) (_ : Unit) => r = s_X12_dream) (fun (_ : Unit) _ => True) (fun _ => False)) 0 0 (fun _ => False) := by
  refine Met.ofW (cc := cX12_dream) (maxL := 3) (ret := (some .int)) (by decide) rfl ?_
  intro p e s m args below meth c s₁ B hml hv
  obtain ⟨rfl, hsz, hP, hK, hD0, hG⟩ := hv
  have hx := B.exec
  have hb := B.bytes
  have hr := B.returns
  have hts := atoms_spec (ws := wsX12_dream) B.pre
  have hown : s.vm.findClass RX12 = some m.cls := findClass_of_methodNamed B.named
  have hlocks := B.notSynchronized
  subst hsz
  have hS : va_S (fun _ : Nat => False) s.heap s.heap [] := va_S.rf
  have hP : va_P (dC, dI) vwCl [(h0, .inr (12, [d0, d1, d2, d3, d4, d5, d6, d7, d8, d9, d10, d11, d12, d13, d14, d15, d16, d17, d18, d19, d20, d21, .int 0, d23, d24, d25, d26, d27, d28, d29, d30, d31, d32, d33, d34, d35, d36, d37, d38, d39, d40, d41, d42, d43, d44, d45, d46, d47, d48, d49, d50, d51, d52, d53, d54, d55]))] s.heap := hP
  have hl := lv_entry ([.ref h0, .int p0, .int p1]) (n := 3) (Nat.le_of_ble_eq_true rfl)
  rw [lg_entry_eq]
  generalize (lg_sl ([.ref h0, .int p0, .int p1]) ++ List.replicate (3 - (lg_sl ([.ref h0, .int p0, .int p1])).length) Slot.unset).toArray = ls at hl ⊢
  have hl : lv_has ls 3 [(0, .ref h0), (1, .int p0), (2, .int p1)] := hl
  refine lv_aload_n hx hb dX12_dream_0 rfl (lv_at hl 0 rfl) ?_
  refine lv_iload_n hx hb dX12_dream_1 rfl (lv_at hl 1 rfl) ?_
  have hPc := hP.sub (ws' := [(h0, .inr (12, [d0, d1, d2, d3, d4, d5, d6, d7, d8, d9, d10, d11, d12, d13, d14, d15, d16, d17, d18, d19, d20, d21, .int 0, d23, d24, d25, d26, d27, d28, d29, d30, d31, d32, d33, d34, d35, d36, d37, d38, d39, d40, d41, d42, d43, d44, d45, d46, d47, d48, d49, d50, d51, d52, d53, d54, d55]))]) [0] rfl
  have hDc := hD0.sub (ws' := [(h0, .inr (12, [d0, d1, d2, d3, d4, d5, d6, d7, d8, d9, d10, d11, d12, d13, d14, d15, d16, d17, d18, d19, d20, d21, .int 0, d23, d24, d25, d26, d27, d28, d29, d30, d31, d32, d33, d34, d35, d36, d37, d38, d39, d40, d41, d42, d43, d44, d45, d46, d47, d48, d49, d50, d51, d52, d53, d54, d55]))]) [0] (by decide) rfl
  refine va_calli (va_runV (As := [.int p0]) (rest := []) ⟨hx, hb, hml, hown, hts⟩ (c_X12_isMan l dC dI cI cZ s.heap.size h0 d0 d1 d2 d3 d4 d5 d6 d7 d8 d9 d10 d11 d12 d13 d14 d15 d16 d17 d18 d19 d20 d21 d23 d24 d25 d26 d27 d28 d29 d30 d31 d32 d33 d34 d35 d36 d37 d38 d39 d40 d41 d42 d43 d44 d45 d46 d47 d48 d49 d50 d51 d52 d53 d54 d55 p0) (cwV 1 hts gX12_dream_X12_isMan rfl rfl rfl (by decide +kernel) ⟨Nat.le_of_ble_eq_true rfl, Nat.le_of_ble_eq_true rfl⟩) (zPreV hPc hK hDc hG (ci := 12) (q0 := 0) rfl rfl) rfl rfl hl.1 rfl (lv_room (Nat.le_of_ble_eq_true rfl)) dX12_dream_2 ⟨Nat.le_of_ble_eq_true rfl, Nat.le_of_ble_eq_true rfl⟩) hS (fun _ _ h => h.elim) (fun _ h => h.elim) (fun r1 u9 t9 H1 locs ht9 hvm hwr1 hB9 hz1 hk1 hS => ?_)
  replace hP := zKept hP hk1
  try clear hB9 hz1 hk1 hvm ht9 u9 hPc hDc
  generalize H1 = H at hP hS ⊢
  obtain rfl : r1 = 0 := hwr1.trans rfl
  refine lv_if_eq (tgt := 16) hx hb dX12_dream_5 (by decide) (fun _ => ?_) (fun c9 => absurd (by decide) c9)
  refine lv_iconst (v := (-1)) hx hb dX12_dream_16 (by decide) ?_
  exact W.iret (v := (-1)) hx hb hr (fun t ht hW => ⟨⟨(-1), (), rfl, (by unfold s_X12_dream; first | rfl | simp), trivial⟩, hS.F ht⟩) hS.2.2 dX12_dream_17

def s_X12_sleeps : Int32 := (-1)
set_option maxHeartbeats 4000000 in
set_option maxRecDepth 100000 in
theorem c_X12_sleeps (l : Launch) (dC : Nat → ClassId) (dI : Nat → Nat → Nat) (cI cZ : ClassId) (sz : Nat) (h0 : Nat) (d0 : Value) (d1 : Value) (d2 : Value) (d3 : Value) (d4 : Value) (d5 : Value) (d6 : Value) (d7 : Value) (d8 : Value) (d9 : Value) (d10 : Value) (d11 : Value) (d12 : Value) (d13 : Value) (d14 : Value) (d15 : Value) (d16 : Value) (d17 : Value) (d18 : Value) (d19 : Value) (d20 : Value) (d21 : Value) (d23 : Value) (d24 : Value) (d25 : Value) (d26 : Value) (d27 : Value) (d28 : Value) (d29 : Value) (d30 : Value) (d31 : Value) (d32 : Value) (d33 : Value) (d34 : Value) (d35 : Value) (d36 : Value) (d37 : Value) (d38 : Value) (d39 : Value) (d40 : Value) (d41 : Value) (d42 : Value) (d43 : Value) (d44 : Value) (d45 : Value) (d46 : Value) (d47 : Value) (d48 : Value) (d49 : Value) (d50 : Value) (d51 : Value) (d52 : Value) (d53 : Value) (d54 : Value) (d55 : Value) (p0 : Int32) (p1 : Int32) : Met l yX12_sleeps wsX12_sleeps ({ frames := 2, cells := 0, slots := 0, locals := 43 }) (va_Pc [.ref h0, .int p0, .int p1] (zPre dC dI cI cZ sz [(h0, .inr (12, [d0, d1, d2, d3, d4, d5, d6, d7, d8, d9, d10, d11, d12, d13, d14, d15, d16, d17, d18, d19, d20, d21, .int 0, d23, d24, d25, d26, d27, d28, d29, d30, d31, d32, d33, d34, d35, d36, d37, d38, d39, d40, d41, d42, d43, d44, d45, d46, d47, d48, d49, d50, d51, d52, d53, d54, d55]))])) (va_Qi (fun (r : Int32) (_ : Unit) => r = s_X12_sleeps) (fun (_ : Unit) _ => True) (fun _ => False)) 0 0 (fun _ => False) := by
  refine Met.ofW (cc := cX12_sleeps) (maxL := 3) (ret := (some .int)) (by decide) rfl ?_
  intro p e s m args below meth c s₁ B hml hv
  obtain ⟨rfl, hsz, hP, hK, hD0, hG⟩ := hv
  have hx := B.exec
  have hb := B.bytes
  have hr := B.returns
  have hts := atoms_spec (ws := wsX12_sleeps) B.pre
  have hown : s.vm.findClass RX12 = some m.cls := findClass_of_methodNamed B.named
  have hlocks := B.notSynchronized
  subst hsz
  have hS : va_S (fun _ : Nat => False) s.heap s.heap [] := va_S.rf
  have hP : va_P (dC, dI) vwCl [(h0, .inr (12, [d0, d1, d2, d3, d4, d5, d6, d7, d8, d9, d10, d11, d12, d13, d14, d15, d16, d17, d18, d19, d20, d21, .int 0, d23, d24, d25, d26, d27, d28, d29, d30, d31, d32, d33, d34, d35, d36, d37, d38, d39, d40, d41, d42, d43, d44, d45, d46, d47, d48, d49, d50, d51, d52, d53, d54, d55]))] s.heap := hP
  have hl := lv_entry ([.ref h0, .int p0, .int p1]) (n := 3) (Nat.le_of_ble_eq_true rfl)
  rw [lg_entry_eq]
  generalize (lg_sl ([.ref h0, .int p0, .int p1]) ++ List.replicate (3 - (lg_sl ([.ref h0, .int p0, .int p1])).length) Slot.unset).toArray = ls at hl ⊢
  have hl : lv_has ls 3 [(0, .ref h0), (1, .int p0), (2, .int p1)] := hl
  refine lv_aload_n hx hb dX12_sleeps_0 rfl (lv_at hl 0 rfl) ?_
  refine lv_iload_n hx hb dX12_sleeps_1 rfl (lv_at hl 1 rfl) ?_
  have hPc := hP.sub (ws' := [(h0, .inr (12, [d0, d1, d2, d3, d4, d5, d6, d7, d8, d9, d10, d11, d12, d13, d14, d15, d16, d17, d18, d19, d20, d21, .int 0, d23, d24, d25, d26, d27, d28, d29, d30, d31, d32, d33, d34, d35, d36, d37, d38, d39, d40, d41, d42, d43, d44, d45, d46, d47, d48, d49, d50, d51, d52, d53, d54, d55]))]) [0] rfl
  have hDc := hD0.sub (ws' := [(h0, .inr (12, [d0, d1, d2, d3, d4, d5, d6, d7, d8, d9, d10, d11, d12, d13, d14, d15, d16, d17, d18, d19, d20, d21, .int 0, d23, d24, d25, d26, d27, d28, d29, d30, d31, d32, d33, d34, d35, d36, d37, d38, d39, d40, d41, d42, d43, d44, d45, d46, d47, d48, d49, d50, d51, d52, d53, d54, d55]))]) [0] (by decide) rfl
  refine va_calli (va_runV (As := [.int p0]) (rest := []) ⟨hx, hb, hml, hown, hts⟩ (c_X12_isMan l dC dI cI cZ s.heap.size h0 d0 d1 d2 d3 d4 d5 d6 d7 d8 d9 d10 d11 d12 d13 d14 d15 d16 d17 d18 d19 d20 d21 d23 d24 d25 d26 d27 d28 d29 d30 d31 d32 d33 d34 d35 d36 d37 d38 d39 d40 d41 d42 d43 d44 d45 d46 d47 d48 d49 d50 d51 d52 d53 d54 d55 p0) (cwV 1 hts gX12_sleeps_X12_isMan rfl rfl rfl (by decide +kernel) ⟨Nat.le_of_ble_eq_true rfl, Nat.le_of_ble_eq_true rfl⟩) (zPreV hPc hK hDc hG (ci := 12) (q0 := 0) rfl rfl) rfl rfl hl.1 rfl (lv_room (Nat.le_of_ble_eq_true rfl)) dX12_sleeps_2 ⟨Nat.le_of_ble_eq_true rfl, Nat.le_of_ble_eq_true rfl⟩) hS (fun _ _ h => h.elim) (fun _ h => h.elim) (fun r1 u9 t9 H1 locs ht9 hvm hwr1 hB9 hz1 hk1 hS => ?_)
  replace hP := zKept hP hk1
  try clear hB9 hz1 hk1 hvm ht9 u9 hPc hDc
  generalize H1 = H at hP hS ⊢
  obtain rfl : r1 = 0 := hwr1.trans rfl
  refine lv_if_eq (tgt := 16) hx hb dX12_sleeps_5 (by decide) (fun _ => ?_) (fun c9 => absurd (by decide) c9)
  refine lv_iconst (v := (-1)) hx hb dX12_sleeps_16 (by decide) ?_
  exact W.iret (v := (-1)) hx hb hr (fun t ht hW => ⟨⟨(-1), (), rfl, (by unfold s_X12_sleeps; first | rfl | simp), trivial⟩, hS.F ht⟩) hS.2.2 dX12_sleeps_17

def s_X12_slept : Int32 := (-1000000)
set_option maxHeartbeats 4000000 in
set_option maxRecDepth 100000 in
theorem c_X12_slept (l : Launch) (dC : Nat → ClassId) (dI : Nat → Nat → Nat) (cI cZ : ClassId) (sz : Nat) (h0 : Nat) (d0 : Value) (d1 : Value) (d2 : Value) (d3 : Value) (d4 : Value) (d5 : Value) (d6 : Value) (d7 : Value) (d8 : Value) (d9 : Value) (d10 : Value) (d11 : Value) (d12 : Value) (d13 : Value) (d14 : Value) (d15 : Value) (d16 : Value) (d17 : Value) (d18 : Value) (d19 : Value) (d20 : Value) (d21 : Value) (d23 : Value) (d24 : Value) (d25 : Value) (d26 : Value) (d27 : Value) (d28 : Value) (d29 : Value) (d30 : Value) (d31 : Value) (d32 : Value) (d33 : Value) (d34 : Value) (d35 : Value) (d36 : Value) (d37 : Value) (d38 : Value) (d39 : Value) (d40 : Value) (d41 : Value) (d42 : Value) (d43 : Value) (d44 : Value) (d45 : Value) (d46 : Value) (d47 : Value) (d48 : Value) (d49 : Value) (d50 : Value) (d51 : Value) (d52 : Value) (d53 : Value) (d54 : Value) (d55 : Value) (p0 : Int32) (p1 : Int32) : Met l yX12_slept wsX12_slept ({ frames := 2, cells := 0, slots := 0, locals := 43 }) (va_Pc [.ref h0, .int p0, .int p1] (zPre dC dI cI cZ sz [(h0, .inr (12, [d0, d1, d2, d3, d4, d5, d6, d7, d8, d9, d10, d11, d12, d13, d14, d15, d16, d17, d18, d19, d20, d21, .int 0, d23, d24, d25, d26, d27, d28, d29, d30, d31, d32, d33, d34, d35, d36, d37, d38, d39, d40, d41, d42, d43, d44, d45, d46, d47, d48, d49, d50, d51, d52, d53, d54, d55]))])) (va_Qi (fun (r : Int32) (_ : Unit) => r = s_X12_slept) (fun (_ : Unit) _ => True) (fun _ => False)) 0 0 (fun _ => False) := by
  refine Met.ofW (cc := cX12_slept) (maxL := 3) (ret := (some .int)) (by decide) rfl ?_
  intro p e s m args below meth c s₁ B hml hv
  obtain ⟨rfl, hsz, hP, hK, hD0, hG⟩ := hv
  have hx := B.exec
  have hb := B.bytes
  have hr := B.returns
  have hts := atoms_spec (ws := wsX12_slept) B.pre
  have hown : s.vm.findClass RX12 = some m.cls := findClass_of_methodNamed B.named
  have hlocks := B.notSynchronized
  subst hsz
  have hS : va_S (fun _ : Nat => False) s.heap s.heap [] := va_S.rf
  have hP : va_P (dC, dI) vwCl [(h0, .inr (12, [d0, d1, d2, d3, d4, d5, d6, d7, d8, d9, d10, d11, d12, d13, d14, d15, d16, d17, d18, d19, d20, d21, .int 0, d23, d24, d25, d26, d27, d28, d29, d30, d31, d32, d33, d34, d35, d36, d37, d38, d39, d40, d41, d42, d43, d44, d45, d46, d47, d48, d49, d50, d51, d52, d53, d54, d55]))] s.heap := hP
  have hl := lv_entry ([.ref h0, .int p0, .int p1]) (n := 3) (Nat.le_of_ble_eq_true rfl)
  rw [lg_entry_eq]
  generalize (lg_sl ([.ref h0, .int p0, .int p1]) ++ List.replicate (3 - (lg_sl ([.ref h0, .int p0, .int p1])).length) Slot.unset).toArray = ls at hl ⊢
  have hl : lv_has ls 3 [(0, .ref h0), (1, .int p0), (2, .int p1)] := hl
  refine lv_aload_n hx hb dX12_slept_0 rfl (lv_at hl 0 rfl) ?_
  refine lv_iload_n hx hb dX12_slept_1 rfl (lv_at hl 1 rfl) ?_
  have hPc := hP.sub (ws' := [(h0, .inr (12, [d0, d1, d2, d3, d4, d5, d6, d7, d8, d9, d10, d11, d12, d13, d14, d15, d16, d17, d18, d19, d20, d21, .int 0, d23, d24, d25, d26, d27, d28, d29, d30, d31, d32, d33, d34, d35, d36, d37, d38, d39, d40, d41, d42, d43, d44, d45, d46, d47, d48, d49, d50, d51, d52, d53, d54, d55]))]) [0] rfl
  have hDc := hD0.sub (ws' := [(h0, .inr (12, [d0, d1, d2, d3, d4, d5, d6, d7, d8, d9, d10, d11, d12, d13, d14, d15, d16, d17, d18, d19, d20, d21, .int 0, d23, d24, d25, d26, d27, d28, d29, d30, d31, d32, d33, d34, d35, d36, d37, d38, d39, d40, d41, d42, d43, d44, d45, d46, d47, d48, d49, d50, d51, d52, d53, d54, d55]))]) [0] (by decide) rfl
  refine va_calli (va_runV (As := [.int p0]) (rest := []) ⟨hx, hb, hml, hown, hts⟩ (c_X12_isMan l dC dI cI cZ s.heap.size h0 d0 d1 d2 d3 d4 d5 d6 d7 d8 d9 d10 d11 d12 d13 d14 d15 d16 d17 d18 d19 d20 d21 d23 d24 d25 d26 d27 d28 d29 d30 d31 d32 d33 d34 d35 d36 d37 d38 d39 d40 d41 d42 d43 d44 d45 d46 d47 d48 d49 d50 d51 d52 d53 d54 d55 p0) (cwV 1 hts gX12_slept_X12_isMan rfl rfl rfl (by decide +kernel) ⟨Nat.le_of_ble_eq_true rfl, Nat.le_of_ble_eq_true rfl⟩) (zPreV hPc hK hDc hG (ci := 12) (q0 := 0) rfl rfl) rfl rfl hl.1 rfl (lv_room (Nat.le_of_ble_eq_true rfl)) dX12_slept_2 ⟨Nat.le_of_ble_eq_true rfl, Nat.le_of_ble_eq_true rfl⟩) hS (fun _ _ h => h.elim) (fun _ h => h.elim) (fun r1 u9 t9 H1 locs ht9 hvm hwr1 hB9 hz1 hk1 hS => ?_)
  replace hP := zKept hP hk1
  try clear hB9 hz1 hk1 hvm ht9 u9 hPc hDc
  generalize H1 = H at hP hS ⊢
  obtain rfl : r1 = 0 := hwr1.trans rfl
  refine lv_if_eq (tgt := 17) hx hb dX12_slept_5 (by decide) (fun _ => ?_) (fun c9 => absurd (by decide) c9)
  refine lv_ldcw (own := RX12) (v := (-1000000)) hx hb hown (hts (.constant RX12 377 (-1000000)) (by decide +kernel)) dX12_slept_17 ?_
  exact W.iret (v := (-1000000)) hx hb hr (fun t ht hW => ⟨⟨(-1000000), (), rfl, (by unfold s_X12_slept; first | rfl | simp), trivial⟩, hS.F ht⟩) hS.2.2 dX12_slept_20

def s_X12_awake : Int32 := (-1)
set_option maxHeartbeats 4000000 in
set_option maxRecDepth 100000 in
theorem c_X12_awake (l : Launch) (dC : Nat → ClassId) (dI : Nat → Nat → Nat) (cI cZ : ClassId) (sz : Nat) (h0 : Nat) (d0 : Value) (d1 : Value) (d2 : Value) (d3 : Value) (d4 : Value) (d5 : Value) (d6 : Value) (d7 : Value) (d8 : Value) (d9 : Value) (d10 : Value) (d11 : Value) (d12 : Value) (d13 : Value) (d14 : Value) (d15 : Value) (d16 : Value) (d17 : Value) (d18 : Value) (d19 : Value) (d20 : Value) (d21 : Value) (d23 : Value) (d24 : Value) (d25 : Value) (d26 : Value) (d27 : Value) (d28 : Value) (d29 : Value) (d30 : Value) (d31 : Value) (d32 : Value) (d33 : Value) (d34 : Value) (d35 : Value) (d36 : Value) (d37 : Value) (d38 : Value) (d39 : Value) (d40 : Value) (d41 : Value) (d42 : Value) (d43 : Value) (d44 : Value) (d45 : Value) (d46 : Value) (d47 : Value) (d48 : Value) (d49 : Value) (d50 : Value) (d51 : Value) (d52 : Value) (d53 : Value) (d54 : Value) (d55 : Value) (p0 : Int32) : Met l yX12_awake wsX12_awake ({ frames := 1, cells := 0, slots := 0, locals := 21 }) (va_Pc [.ref h0, .int p0] (zPre dC dI cI cZ sz [(h0, .inr (12, [d0, d1, d2, d3, d4, d5, d6, d7, d8, d9, d10, d11, d12, d13, d14, d15, d16, d17, d18, d19, d20, d21, .int 0, d23, d24, d25, d26, d27, d28, d29, d30, d31, d32, d33, d34, d35, d36, d37, d38, d39, d40, d41, d42, d43, d44, d45, d46, d47, d48, d49, d50, d51, d52, d53, d54, d55]))])) (va_Qi (fun (r : Int32) (_ : Unit) => r = s_X12_awake) (fun (_ : Unit) _ => True) (fun _ => False)) 0 0 (fun _ => False) := by
  refine Met.ofW (cc := cX12_awake) (maxL := 2) (ret := (some .int)) (by decide) rfl ?_
  intro p e s m args below meth c s₁ B hml hv
  obtain ⟨rfl, hsz, hP, hK, hD0, hG⟩ := hv
  have hx := B.exec
  have hb := B.bytes
  have hr := B.returns
  have hts := atoms_spec (ws := wsX12_awake) B.pre
  have hown : s.vm.findClass RX12 = some m.cls := findClass_of_methodNamed B.named
  have hlocks := B.notSynchronized
  subst hsz
  have hS : va_S (fun _ : Nat => False) s.heap s.heap [] := va_S.rf
  have hP : va_P (dC, dI) vwCl [(h0, .inr (12, [d0, d1, d2, d3, d4, d5, d6, d7, d8, d9, d10, d11, d12, d13, d14, d15, d16, d17, d18, d19, d20, d21, .int 0, d23, d24, d25, d26, d27, d28, d29, d30, d31, d32, d33, d34, d35, d36, d37, d38, d39, d40, d41, d42, d43, d44, d45, d46, d47, d48, d49, d50, d51, d52, d53, d54, d55]))] s.heap := hP
  have hl := lv_entry ([.ref h0, .int p0]) (n := 2) (Nat.le_of_ble_eq_true rfl)
  rw [lg_entry_eq]
  generalize (lg_sl ([.ref h0, .int p0]) ++ List.replicate (2 - (lg_sl ([.ref h0, .int p0])).length) Slot.unset).toArray = ls at hl ⊢
  have hl : lv_has ls 2 [(0, .ref h0), (1, .int p0)] := hl
  refine lv_aload_n hx hb dX12_awake_0 rfl (lv_at hl 0 rfl) ?_
  refine lv_iload_n hx hb dX12_awake_1 rfl (lv_at hl 1 rfl) ?_
  have hPc := hP.sub (ws' := [(h0, .inr (12, [d0, d1, d2, d3, d4, d5, d6, d7, d8, d9, d10, d11, d12, d13, d14, d15, d16, d17, d18, d19, d20, d21, .int 0, d23, d24, d25, d26, d27, d28, d29, d30, d31, d32, d33, d34, d35, d36, d37, d38, d39, d40, d41, d42, d43, d44, d45, d46, d47, d48, d49, d50, d51, d52, d53, d54, d55]))]) [0] rfl
  have hDc := hD0.sub (ws' := [(h0, .inr (12, [d0, d1, d2, d3, d4, d5, d6, d7, d8, d9, d10, d11, d12, d13, d14, d15, d16, d17, d18, d19, d20, d21, .int 0, d23, d24, d25, d26, d27, d28, d29, d30, d31, d32, d33, d34, d35, d36, d37, d38, d39, d40, d41, d42, d43, d44, d45, d46, d47, d48, d49, d50, d51, d52, d53, d54, d55]))]) [0] (by decide) rfl
  refine va_calli (va_runV (As := [.int p0]) (rest := []) ⟨hx, hb, hml, hown, hts⟩ (c_X12_isHour l dC dI cI cZ s.heap.size h0 d0 d1 d2 d3 d4 d5 d6 d7 d8 d9 d10 d11 d12 d13 d14 d15 d16 d17 d18 d19 d20 d21 d23 d24 d25 d26 d27 d28 d29 d30 d31 d32 d33 d34 d35 d36 d37 d38 d39 d40 d41 d42 d43 d44 d45 d46 d47 d48 d49 d50 d51 d52 d53 d54 d55 p0) (cwV 1 hts gX12_awake_X12_isHour rfl rfl rfl (by decide +kernel) ⟨Nat.le_of_ble_eq_true rfl, Nat.le_of_ble_eq_true rfl⟩) (zPreV hPc hK hDc hG (ci := 12) (q0 := 0) rfl rfl) rfl rfl hl.1 rfl (lv_room (Nat.le_of_ble_eq_true rfl)) dX12_awake_2 ⟨Nat.le_of_ble_eq_true rfl, Nat.le_of_ble_eq_true rfl⟩) hS (fun _ _ h => h.elim) (fun _ h => h.elim) (fun r1 u9 t9 H1 locs ht9 hvm hwr1 hB9 hz1 hk1 hS => ?_)
  replace hP := zKept hP hk1
  try clear hB9 hz1 hk1 hvm ht9 u9 hPc hDc
  generalize H1 = H at hP hS ⊢
  obtain rfl : r1 = 0 := hwr1.trans rfl
  refine lv_if_ne (tgt := 10) hx hb dX12_awake_5 (by decide) (fun c9 => absurd (by decide) c9) (fun _ => ?_)
  refine lv_iconst (v := (-1)) hx hb dX12_awake_8 (by decide) ?_
  exact W.iret (v := (-1)) hx hb hr (fun t ht hW => ⟨⟨(-1), (), rfl, (by unfold s_X12_awake; first | rfl | simp), trivial⟩, hS.F ht⟩) hS.2.2 dX12_awake_9

def s_X12_best : Int32 := (-1)
set_option maxHeartbeats 4000000 in
set_option maxRecDepth 100000 in
theorem c_X12_best (l : Launch) (dC : Nat → ClassId) (dI : Nat → Nat → Nat) (cI cZ : ClassId) (sz : Nat) (h0 : Nat) (d0 : Value) (d1 : Value) (d2 : Value) (d3 : Value) (d4 : Value) (d5 : Value) (d6 : Value) (d7 : Value) (d8 : Value) (d9 : Value) (d10 : Value) (d11 : Value) (d12 : Value) (d13 : Value) (d14 : Value) (d15 : Value) (d16 : Value) (d17 : Value) (d18 : Value) (d19 : Value) (d20 : Value) (d21 : Value) (d23 : Value) (d24 : Value) (d25 : Value) (d26 : Value) (d27 : Value) (d28 : Value) (d29 : Value) (d30 : Value) (d31 : Value) (d32 : Value) (d33 : Value) (d34 : Value) (d35 : Value) (d36 : Value) (d37 : Value) (d38 : Value) (d39 : Value) (d40 : Value) (d41 : Value) (d42 : Value) (d43 : Value) (d44 : Value) (d45 : Value) (d46 : Value) (d47 : Value) (d48 : Value) (d49 : Value) (d50 : Value) (d51 : Value) (d52 : Value) (d53 : Value) (d54 : Value) (d55 : Value) (p0 : Int32) (p1 : Int32) : Met l yX12_best wsX12_best ({ frames := 2, cells := 0, slots := 0, locals := 43 }) (va_Pc [.ref h0, .int p0, .int p1] (zPre dC dI cI cZ sz [(h0, .inr (12, [d0, d1, d2, d3, d4, d5, d6, d7, d8, d9, d10, d11, d12, d13, d14, d15, d16, d17, d18, d19, d20, d21, .int 0, d23, d24, d25, d26, d27, d28, d29, d30, d31, d32, d33, d34, d35, d36, d37, d38, d39, d40, d41, d42, d43, d44, d45, d46, d47, d48, d49, d50, d51, d52, d53, d54, d55]))])) (va_Qi (fun (r : Int32) (_ : Unit) => r = s_X12_best) (fun (_ : Unit) _ => True) (fun _ => False)) 0 0 (fun _ => False) := by
  refine Met.ofW (cc := cX12_best) (maxL := 7) (ret := (some .int)) (by decide) rfl ?_
  intro p e s m args below meth c s₁ B hml hv
  obtain ⟨rfl, hsz, hP, hK, hD0, hG⟩ := hv
  have hx := B.exec
  have hb := B.bytes
  have hr := B.returns
  have hts := atoms_spec (ws := wsX12_best) B.pre
  have hown : s.vm.findClass RX12 = some m.cls := findClass_of_methodNamed B.named
  have hlocks := B.notSynchronized
  subst hsz
  have hS : va_S (fun _ : Nat => False) s.heap s.heap [] := va_S.rf
  have hP : va_P (dC, dI) vwCl [(h0, .inr (12, [d0, d1, d2, d3, d4, d5, d6, d7, d8, d9, d10, d11, d12, d13, d14, d15, d16, d17, d18, d19, d20, d21, .int 0, d23, d24, d25, d26, d27, d28, d29, d30, d31, d32, d33, d34, d35, d36, d37, d38, d39, d40, d41, d42, d43, d44, d45, d46, d47, d48, d49, d50, d51, d52, d53, d54, d55]))] s.heap := hP
  have hl := lv_entry ([.ref h0, .int p0, .int p1]) (n := 7) (Nat.le_of_ble_eq_true rfl)
  rw [lg_entry_eq]
  generalize (lg_sl ([.ref h0, .int p0, .int p1]) ++ List.replicate (7 - (lg_sl ([.ref h0, .int p0, .int p1])).length) Slot.unset).toArray = ls at hl ⊢
  have hl : lv_has ls 7 [(0, .ref h0), (1, .int p0), (2, .int p1)] := hl
  refine lv_aload_n hx hb dX12_best_0 rfl (lv_at hl 0 rfl) ?_
  refine lv_iload_n hx hb dX12_best_1 rfl (lv_at hl 1 rfl) ?_
  have hPc := hP.sub (ws' := [(h0, .inr (12, [d0, d1, d2, d3, d4, d5, d6, d7, d8, d9, d10, d11, d12, d13, d14, d15, d16, d17, d18, d19, d20, d21, .int 0, d23, d24, d25, d26, d27, d28, d29, d30, d31, d32, d33, d34, d35, d36, d37, d38, d39, d40, d41, d42, d43, d44, d45, d46, d47, d48, d49, d50, d51, d52, d53, d54, d55]))]) [0] rfl
  have hDc := hD0.sub (ws' := [(h0, .inr (12, [d0, d1, d2, d3, d4, d5, d6, d7, d8, d9, d10, d11, d12, d13, d14, d15, d16, d17, d18, d19, d20, d21, .int 0, d23, d24, d25, d26, d27, d28, d29, d30, d31, d32, d33, d34, d35, d36, d37, d38, d39, d40, d41, d42, d43, d44, d45, d46, d47, d48, d49, d50, d51, d52, d53, d54, d55]))]) [0] (by decide) rfl
  refine va_calli (va_runV (As := [.int p0]) (rest := []) ⟨hx, hb, hml, hown, hts⟩ (c_X12_isMan l dC dI cI cZ s.heap.size h0 d0 d1 d2 d3 d4 d5 d6 d7 d8 d9 d10 d11 d12 d13 d14 d15 d16 d17 d18 d19 d20 d21 d23 d24 d25 d26 d27 d28 d29 d30 d31 d32 d33 d34 d35 d36 d37 d38 d39 d40 d41 d42 d43 d44 d45 d46 d47 d48 d49 d50 d51 d52 d53 d54 d55 p0) (cwV 1 hts gX12_best_X12_isMan rfl rfl rfl (by decide +kernel) ⟨Nat.le_of_ble_eq_true rfl, Nat.le_of_ble_eq_true rfl⟩) (zPreV hPc hK hDc hG (ci := 12) (q0 := 0) rfl rfl) rfl rfl hl.1 rfl (lv_room (Nat.le_of_ble_eq_true rfl)) dX12_best_2 ⟨Nat.le_of_ble_eq_true rfl, Nat.le_of_ble_eq_true rfl⟩) hS (fun _ _ h => h.elim) (fun _ h => h.elim) (fun r1 u9 t9 H1 locs ht9 hvm hwr1 hB9 hz1 hk1 hS => ?_)
  replace hP := zKept hP hk1
  try clear hB9 hz1 hk1 hvm ht9 u9 hPc hDc
  generalize H1 = H at hP hS ⊢
  obtain rfl : r1 = 0 := hwr1.trans rfl
  refine lv_if_eq (tgt := 17) hx hb dX12_best_5 (by decide) (fun _ => ?_) (fun c9 => absurd (by decide) c9)
  refine lv_iconst (v := (-1)) hx hb dX12_best_17 (by decide) ?_
  exact W.iret (v := (-1)) hx hb hr (fun t ht hW => ⟨⟨(-1), (), rfl, (by unfold s_X12_best; first | rfl | simp), trivial⟩, hS.F ht⟩) hS.2.2 dX12_best_18

def s_X12_seen : Int32 := (-1)
set_option maxHeartbeats 4000000 in
set_option maxRecDepth 100000 in
theorem c_X12_seen (l : Launch) (dC : Nat → ClassId) (dI : Nat → Nat → Nat) (cI cZ : ClassId) (sz : Nat) (h0 : Nat) (d0 : Value) (d1 : Value) (d2 : Value) (d3 : Value) (d4 : Value) (d5 : Value) (d6 : Value) (d7 : Value) (d8 : Value) (d9 : Value) (d10 : Value) (d11 : Value) (d12 : Value) (d13 : Value) (d14 : Value) (d15 : Value) (d16 : Value) (d17 : Value) (d18 : Value) (d19 : Value) (d20 : Value) (d21 : Value) (d23 : Value) (d24 : Value) (d25 : Value) (d26 : Value) (d27 : Value) (d28 : Value) (d29 : Value) (d30 : Value) (d31 : Value) (d32 : Value) (d33 : Value) (d34 : Value) (d35 : Value) (d36 : Value) (d37 : Value) (d38 : Value) (d39 : Value) (d40 : Value) (d41 : Value) (d42 : Value) (d43 : Value) (d44 : Value) (d45 : Value) (d46 : Value) (d47 : Value) (d48 : Value) (d49 : Value) (d50 : Value) (d51 : Value) (d52 : Value) (d53 : Value) (d54 : Value) (d55 : Value) (p0 : Int32) (p1 : Int32) (p2 : Int32) : Met l yX12_seen wsX12_seen ({ frames := 2, cells := 0, slots := 0, locals := 43 }) (va_Pc [.ref h0, .int p0, .int p1, .int p2] (zPre dC dI cI cZ sz [(h0, .inr (12, [d0, d1, d2, d3, d4, d5, d6, d7, d8, d9, d10, d11, d12, d13, d14, d15, d16, d17, d18, d19, d20, d21, .int 0, d23, d24, d25, d26, d27, d28, d29, d30, d31, d32, d33, d34, d35, d36, d37, d38, d39, d40, d41, d42, d43, d44, d45, d46, d47, d48, d49, d50, d51, d52, d53, d54, d55]))])) (va_Qi (fun (r : Int32) (_ : Unit) => r = s_X12_seen) (fun (_ : Unit) _ => True) (fun _ => False)) 0 0 (fun _ => False) := by
  refine Met.ofW (cc := cX12_seen) (maxL := 4) (ret := (some .int)) (by decide) rfl ?_
  intro p e s m args below meth c s₁ B hml hv
  obtain ⟨rfl, hsz, hP, hK, hD0, hG⟩ := hv
  have hx := B.exec
  have hb := B.bytes
  have hr := B.returns
  have hts := atoms_spec (ws := wsX12_seen) B.pre
  have hown : s.vm.findClass RX12 = some m.cls := findClass_of_methodNamed B.named
  have hlocks := B.notSynchronized
  subst hsz
  have hS : va_S (fun _ : Nat => False) s.heap s.heap [] := va_S.rf
  have hP : va_P (dC, dI) vwCl [(h0, .inr (12, [d0, d1, d2, d3, d4, d5, d6, d7, d8, d9, d10, d11, d12, d13, d14, d15, d16, d17, d18, d19, d20, d21, .int 0, d23, d24, d25, d26, d27, d28, d29, d30, d31, d32, d33, d34, d35, d36, d37, d38, d39, d40, d41, d42, d43, d44, d45, d46, d47, d48, d49, d50, d51, d52, d53, d54, d55]))] s.heap := hP
  have hl := lv_entry ([.ref h0, .int p0, .int p1, .int p2]) (n := 4) (Nat.le_of_ble_eq_true rfl)
  rw [lg_entry_eq]
  generalize (lg_sl ([.ref h0, .int p0, .int p1, .int p2]) ++ List.replicate (4 - (lg_sl ([.ref h0, .int p0, .int p1, .int p2])).length) Slot.unset).toArray = ls at hl ⊢
  have hl : lv_has ls 4 [(0, .ref h0), (1, .int p0), (2, .int p1), (3, .int p2)] := hl
  refine lv_aload_n hx hb dX12_seen_0 rfl (lv_at hl 0 rfl) ?_
  refine lv_iload_n hx hb dX12_seen_1 rfl (lv_at hl 1 rfl) ?_
  have hPc := hP.sub (ws' := [(h0, .inr (12, [d0, d1, d2, d3, d4, d5, d6, d7, d8, d9, d10, d11, d12, d13, d14, d15, d16, d17, d18, d19, d20, d21, .int 0, d23, d24, d25, d26, d27, d28, d29, d30, d31, d32, d33, d34, d35, d36, d37, d38, d39, d40, d41, d42, d43, d44, d45, d46, d47, d48, d49, d50, d51, d52, d53, d54, d55]))]) [0] rfl
  have hDc := hD0.sub (ws' := [(h0, .inr (12, [d0, d1, d2, d3, d4, d5, d6, d7, d8, d9, d10, d11, d12, d13, d14, d15, d16, d17, d18, d19, d20, d21, .int 0, d23, d24, d25, d26, d27, d28, d29, d30, d31, d32, d33, d34, d35, d36, d37, d38, d39, d40, d41, d42, d43, d44, d45, d46, d47, d48, d49, d50, d51, d52, d53, d54, d55]))]) [0] (by decide) rfl
  refine va_calli (va_runV (As := [.int p0]) (rest := []) ⟨hx, hb, hml, hown, hts⟩ (c_X12_isMan l dC dI cI cZ s.heap.size h0 d0 d1 d2 d3 d4 d5 d6 d7 d8 d9 d10 d11 d12 d13 d14 d15 d16 d17 d18 d19 d20 d21 d23 d24 d25 d26 d27 d28 d29 d30 d31 d32 d33 d34 d35 d36 d37 d38 d39 d40 d41 d42 d43 d44 d45 d46 d47 d48 d49 d50 d51 d52 d53 d54 d55 p0) (cwV 1 hts gX12_seen_X12_isMan rfl rfl rfl (by decide +kernel) ⟨Nat.le_of_ble_eq_true rfl, Nat.le_of_ble_eq_true rfl⟩) (zPreV hPc hK hDc hG (ci := 12) (q0 := 0) rfl rfl) rfl rfl hl.1 rfl (lv_room (Nat.le_of_ble_eq_true rfl)) dX12_seen_2 ⟨Nat.le_of_ble_eq_true rfl, Nat.le_of_ble_eq_true rfl⟩) hS (fun _ _ h => h.elim) (fun _ h => h.elim) (fun r1 u9 t9 H1 locs ht9 hvm hwr1 hB9 hz1 hk1 hS => ?_)
  replace hP := zKept hP hk1
  try clear hB9 hz1 hk1 hvm ht9 u9 hPc hDc
  generalize H1 = H at hP hS ⊢
  obtain rfl : r1 = 0 := hwr1.trans rfl
  refine lv_if_eq (tgt := 27) hx hb dX12_seen_5 (by decide) (fun _ => ?_) (fun c9 => absurd (by decide) c9)
  refine lv_iconst (v := (-1)) hx hb dX12_seen_27 (by decide) ?_
  exact W.iret (v := (-1)) hx hb hr (fun t ht hW => ⟨⟨(-1), (), rfl, (by unfold s_X12_seen; first | rfl | simp), trivial⟩, hS.F ht⟩) hS.2.2 dX12_seen_28

def s_X12_who : Int32 := (-1)
set_option maxHeartbeats 4000000 in
set_option maxRecDepth 100000 in
theorem c_X12_who (l : Launch) (dC : Nat → ClassId) (dI : Nat → Nat → Nat) (cI cZ : ClassId) (sz : Nat) (h0 : Nat) (d0 : Value) (d1 : Value) (d2 : Value) (d3 : Value) (d4 : Value) (d5 : Value) (d6 : Value) (d7 : Value) (d8 : Value) (d9 : Value) (d10 : Value) (d11 : Value) (d12 : Value) (d13 : Value) (d14 : Value) (d15 : Value) (d16 : Value) (d17 : Value) (d18 : Value) (d19 : Value) (d20 : Value) (d21 : Value) (d23 : Value) (d24 : Value) (d25 : Value) (d26 : Value) (d27 : Value) (d28 : Value) (d29 : Value) (d30 : Value) (d31 : Value) (d32 : Value) (d33 : Value) (d34 : Value) (d35 : Value) (d36 : Value) (d37 : Value) (d38 : Value) (d39 : Value) (d40 : Value) (d41 : Value) (d42 : Value) (d43 : Value) (d44 : Value) (d45 : Value) (d46 : Value) (d47 : Value) (d48 : Value) (d49 : Value) (d50 : Value) (d51 : Value) (d52 : Value) (d53 : Value) (d54 : Value) (d55 : Value) (p0 : Int32) (p1 : Int32) : Met l yX12_who wsX12_who ({ frames := 1, cells := 0, slots := 0, locals := 21 }) (va_Pc [.ref h0, .int p0, .int p1] (zPre dC dI cI cZ sz [(h0, .inr (12, [d0, d1, d2, d3, d4, d5, d6, d7, d8, d9, d10, d11, d12, d13, d14, d15, d16, d17, d18, d19, d20, d21, .int 0, d23, d24, d25, d26, d27, d28, d29, d30, d31, d32, d33, d34, d35, d36, d37, d38, d39, d40, d41, d42, d43, d44, d45, d46, d47, d48, d49, d50, d51, d52, d53, d54, d55]))])) (va_Qi (fun (r : Int32) (_ : Unit) => r = s_X12_who) (fun (_ : Unit) _ => True) (fun _ => False)) 0 0 (fun _ => False) := by
  refine Met.ofW (cc := cX12_who) (maxL := 5) (ret := (some .int)) (by decide) rfl ?_
  intro p e s m args below meth c s₁ B hml hv
  obtain ⟨rfl, hsz, hP, hK, hD0, hG⟩ := hv
  have hx := B.exec
  have hb := B.bytes
  have hr := B.returns
  have hts := atoms_spec (ws := wsX12_who) B.pre
  have hown : s.vm.findClass RX12 = some m.cls := findClass_of_methodNamed B.named
  have hlocks := B.notSynchronized
  subst hsz
  have hS : va_S (fun _ : Nat => False) s.heap s.heap [] := va_S.rf
  have hP : va_P (dC, dI) vwCl [(h0, .inr (12, [d0, d1, d2, d3, d4, d5, d6, d7, d8, d9, d10, d11, d12, d13, d14, d15, d16, d17, d18, d19, d20, d21, .int 0, d23, d24, d25, d26, d27, d28, d29, d30, d31, d32, d33, d34, d35, d36, d37, d38, d39, d40, d41, d42, d43, d44, d45, d46, d47, d48, d49, d50, d51, d52, d53, d54, d55]))] s.heap := hP
  have hl := lv_entry ([.ref h0, .int p0, .int p1]) (n := 5) (Nat.le_of_ble_eq_true rfl)
  rw [lg_entry_eq]
  generalize (lg_sl ([.ref h0, .int p0, .int p1]) ++ List.replicate (5 - (lg_sl ([.ref h0, .int p0, .int p1])).length) Slot.unset).toArray = ls at hl ⊢
  have hl : lv_has ls 5 [(0, .ref h0), (1, .int p0), (2, .int p1)] := hl
  refine lv_aload_n hx hb dX12_who_0 rfl (lv_at hl 0 rfl) ?_
  refine lv_iload_n hx hb dX12_who_1 rfl (lv_at hl 1 rfl) ?_
  have hPc := hP.sub (ws' := [(h0, .inr (12, [d0, d1, d2, d3, d4, d5, d6, d7, d8, d9, d10, d11, d12, d13, d14, d15, d16, d17, d18, d19, d20, d21, .int 0, d23, d24, d25, d26, d27, d28, d29, d30, d31, d32, d33, d34, d35, d36, d37, d38, d39, d40, d41, d42, d43, d44, d45, d46, d47, d48, d49, d50, d51, d52, d53, d54, d55]))]) [0] rfl
  have hDc := hD0.sub (ws' := [(h0, .inr (12, [d0, d1, d2, d3, d4, d5, d6, d7, d8, d9, d10, d11, d12, d13, d14, d15, d16, d17, d18, d19, d20, d21, .int 0, d23, d24, d25, d26, d27, d28, d29, d30, d31, d32, d33, d34, d35, d36, d37, d38, d39, d40, d41, d42, d43, d44, d45, d46, d47, d48, d49, d50, d51, d52, d53, d54, d55]))]) [0] (by decide) rfl
  refine va_calli (va_runV (As := [.int p0]) (rest := []) ⟨hx, hb, hml, hown, hts⟩ (c_X12_isMore l dC dI cI cZ s.heap.size h0 d0 d1 d2 d3 d4 d5 d6 d7 d8 d9 d10 d11 d12 d13 d14 d15 d16 d17 d18 d19 d20 d21 d23 d24 d25 d26 d27 d28 d29 d30 d31 d32 d33 d34 d35 d36 d37 d38 d39 d40 d41 d42 d43 d44 d45 d46 d47 d48 d49 d50 d51 d52 d53 d54 d55 p0) (cwV 1 hts gX12_who_X12_isMore rfl rfl rfl (by decide +kernel) ⟨Nat.le_of_ble_eq_true rfl, Nat.le_of_ble_eq_true rfl⟩) (zPreV hPc hK hDc hG (ci := 12) (q0 := 0) rfl rfl) rfl rfl hl.1 rfl (lv_room (Nat.le_of_ble_eq_true rfl)) dX12_who_2 ⟨Nat.le_of_ble_eq_true rfl, Nat.le_of_ble_eq_true rfl⟩) hS (fun _ _ h => h.elim) (fun _ h => h.elim) (fun r1 u9 t9 H1 locs ht9 hvm hwr1 hB9 hz1 hk1 hS => ?_)
  replace hP := zKept hP hk1
  try clear hB9 hz1 hk1 hvm ht9 u9 hPc hDc
  generalize H1 = H at hP hS ⊢
  obtain rfl : r1 = 0 := hwr1.trans rfl
  refine lv_if_eq (tgt := 13) hx hb dX12_who_5 (by decide) (fun _ => ?_) (fun c9 => absurd (by decide) c9)
  refine lv_iconst (v := (-1)) hx hb dX12_who_13 (by decide) ?_
  exact W.iret (v := (-1)) hx hb hr (fun t ht hW => ⟨⟨(-1), (), rfl, (by unfold s_X12_who; first | rfl | simp), trivial⟩, hS.F ht⟩) hS.2.2 dX12_who_14

def s_X12_hourToAsk : Int32 := (-1)
set_option maxHeartbeats 4000000 in
set_option maxRecDepth 100000 in
theorem c_X12_hourToAsk (l : Launch) (dC : Nat → ClassId) (dI : Nat → Nat → Nat) (cI cZ : ClassId) (sz : Nat) (h0 : Nat) (d0 : Value) (d1 : Value) (d2 : Value) (d3 : Value) (d4 : Value) (d5 : Value) (d6 : Value) (d7 : Value) (d8 : Value) (d9 : Value) (d10 : Value) (d11 : Value) (d12 : Value) (d13 : Value) (d14 : Value) (d15 : Value) (d16 : Value) (d17 : Value) (d18 : Value) (d19 : Value) (d20 : Value) (d21 : Value) (d23 : Value) (d24 : Value) (d25 : Value) (d26 : Value) (d27 : Value) (d28 : Value) (d29 : Value) (d30 : Value) (d31 : Value) (d32 : Value) (d33 : Value) (d34 : Value) (d35 : Value) (d36 : Value) (d37 : Value) (d38 : Value) (d39 : Value) (d40 : Value) (d41 : Value) (d42 : Value) (d43 : Value) (d44 : Value) (d45 : Value) (d46 : Value) (d47 : Value) (d48 : Value) (d49 : Value) (d50 : Value) (d51 : Value) (d52 : Value) (d53 : Value) (d54 : Value) (d55 : Value) (p0 : Int32) : Met l yX12_hourToAsk wsX12_hourToAsk ({ frames := 1, cells := 0, slots := 0, locals := 21 }) (va_Pc [.ref h0, .int p0] (zPre dC dI cI cZ sz [(h0, .inr (12, [d0, d1, d2, d3, d4, d5, d6, d7, d8, d9, d10, d11, d12, d13, d14, d15, d16, d17, d18, d19, d20, d21, .int 0, d23, d24, d25, d26, d27, d28, d29, d30, d31, d32, d33, d34, d35, d36, d37, d38, d39, d40, d41, d42, d43, d44, d45, d46, d47, d48, d49, d50, d51, d52, d53, d54, d55]))])) (va_Qi (fun (r : Int32) (_ : Unit) => r = s_X12_hourToAsk) (fun (_ : Unit) _ => True) (fun _ => False)) 0 0 (fun _ => False) := by
  refine Met.ofW (cc := cX12_hourToAsk) (maxL := 8) (ret := (some .int)) (by decide) rfl ?_
  intro p e s m args below meth c s₁ B hml hv
  obtain ⟨rfl, hsz, hP, hK, hD0, hG⟩ := hv
  have hx := B.exec
  have hb := B.bytes
  have hr := B.returns
  have hts := atoms_spec (ws := wsX12_hourToAsk) B.pre
  have hown : s.vm.findClass RX12 = some m.cls := findClass_of_methodNamed B.named
  have hlocks := B.notSynchronized
  subst hsz
  have hS : va_S (fun _ : Nat => False) s.heap s.heap [] := va_S.rf
  have hP : va_P (dC, dI) vwCl [(h0, .inr (12, [d0, d1, d2, d3, d4, d5, d6, d7, d8, d9, d10, d11, d12, d13, d14, d15, d16, d17, d18, d19, d20, d21, .int 0, d23, d24, d25, d26, d27, d28, d29, d30, d31, d32, d33, d34, d35, d36, d37, d38, d39, d40, d41, d42, d43, d44, d45, d46, d47, d48, d49, d50, d51, d52, d53, d54, d55]))] s.heap := hP
  have hl := lv_entry ([.ref h0, .int p0]) (n := 8) (Nat.le_of_ble_eq_true rfl)
  rw [lg_entry_eq]
  generalize (lg_sl ([.ref h0, .int p0]) ++ List.replicate (8 - (lg_sl ([.ref h0, .int p0])).length) Slot.unset).toArray = ls at hl ⊢
  have hl : lv_has ls 8 [(0, .ref h0), (1, .int p0)] := hl
  refine lv_aload_n hx hb dX12_hourToAsk_0 rfl (lv_at hl 0 rfl) ?_
  refine lv_iload_n hx hb dX12_hourToAsk_1 rfl (lv_at hl 1 rfl) ?_
  have hPc := hP.sub (ws' := [(h0, .inr (12, [d0, d1, d2, d3, d4, d5, d6, d7, d8, d9, d10, d11, d12, d13, d14, d15, d16, d17, d18, d19, d20, d21, .int 0, d23, d24, d25, d26, d27, d28, d29, d30, d31, d32, d33, d34, d35, d36, d37, d38, d39, d40, d41, d42, d43, d44, d45, d46, d47, d48, d49, d50, d51, d52, d53, d54, d55]))]) [0] rfl
  have hDc := hD0.sub (ws' := [(h0, .inr (12, [d0, d1, d2, d3, d4, d5, d6, d7, d8, d9, d10, d11, d12, d13, d14, d15, d16, d17, d18, d19, d20, d21, .int 0, d23, d24, d25, d26, d27, d28, d29, d30, d31, d32, d33, d34, d35, d36, d37, d38, d39, d40, d41, d42, d43, d44, d45, d46, d47, d48, d49, d50, d51, d52, d53, d54, d55]))]) [0] (by decide) rfl
  refine va_calli (va_runV (As := [.int p0]) (rest := []) ⟨hx, hb, hml, hown, hts⟩ (c_X12_isMore l dC dI cI cZ s.heap.size h0 d0 d1 d2 d3 d4 d5 d6 d7 d8 d9 d10 d11 d12 d13 d14 d15 d16 d17 d18 d19 d20 d21 d23 d24 d25 d26 d27 d28 d29 d30 d31 d32 d33 d34 d35 d36 d37 d38 d39 d40 d41 d42 d43 d44 d45 d46 d47 d48 d49 d50 d51 d52 d53 d54 d55 p0) (cwV 1 hts gX12_hourToAsk_X12_isMore rfl rfl rfl (by decide +kernel) ⟨Nat.le_of_ble_eq_true rfl, Nat.le_of_ble_eq_true rfl⟩) (zPreV hPc hK hDc hG (ci := 12) (q0 := 0) rfl rfl) rfl rfl hl.1 rfl (lv_room (Nat.le_of_ble_eq_true rfl)) dX12_hourToAsk_2 ⟨Nat.le_of_ble_eq_true rfl, Nat.le_of_ble_eq_true rfl⟩) hS (fun _ _ h => h.elim) (fun _ h => h.elim) (fun r1 u9 t9 H1 locs ht9 hvm hwr1 hB9 hz1 hk1 hS => ?_)
  replace hP := zKept hP hk1
  try clear hB9 hz1 hk1 hvm ht9 u9 hPc hDc
  generalize H1 = H at hP hS ⊢
  obtain rfl : r1 = 0 := hwr1.trans rfl
  refine lv_if_eq (tgt := 18) hx hb dX12_hourToAsk_5 (by decide) (fun _ => ?_) (fun c9 => absurd (by decide) c9)
  refine lv_iconst (v := (-1)) hx hb dX12_hourToAsk_18 (by decide) ?_
  exact W.iret (v := (-1)) hx hb hr (fun t ht hW => ⟨⟨(-1), (), rfl, (by unfold s_X12_hourToAsk; first | rfl | simp), trivial⟩, hS.F ht⟩) hS.2.2 dX12_hourToAsk_19

def s_X12_said : Int32 := (-1)
set_option maxHeartbeats 4000000 in
set_option maxRecDepth 100000 in
theorem c_X12_said (l : Launch) (dC : Nat → ClassId) (dI : Nat → Nat → Nat) (cI cZ : ClassId) (sz : Nat) (h0 : Nat) (d0 : Value) (d1 : Value) (d2 : Value) (d3 : Value) (d4 : Value) (d5 : Value) (d6 : Value) (d7 : Value) (d8 : Value) (d9 : Value) (d10 : Value) (d11 : Value) (d12 : Value) (d13 : Value) (d14 : Value) (d15 : Value) (d16 : Value) (d17 : Value) (d18 : Value) (d19 : Value) (d20 : Value) (d21 : Value) (d23 : Value) (d24 : Value) (d25 : Value) (d26 : Value) (d27 : Value) (d28 : Value) (d29 : Value) (d30 : Value) (d31 : Value) (d32 : Value) (d33 : Value) (d34 : Value) (d35 : Value) (d36 : Value) (d37 : Value) (d38 : Value) (d39 : Value) (d40 : Value) (d41 : Value) (d42 : Value) (d43 : Value) (d44 : Value) (d45 : Value) (d46 : Value) (d47 : Value) (d48 : Value) (d49 : Value) (d50 : Value) (d51 : Value) (d52 : Value) (d53 : Value) (d54 : Value) (d55 : Value) (p0 : Int32) (p1 : Int32) (p2 : Int32) : Met l yX12_said wsX12_said ({ frames := 3, cells := 0, slots := 0, locals := 65 }) (va_Pc [.ref h0, .int p0, .int p1, .int p2] (zPre dC dI cI cZ sz [(h0, .inr (12, [d0, d1, d2, d3, d4, d5, d6, d7, d8, d9, d10, d11, d12, d13, d14, d15, d16, d17, d18, d19, d20, d21, .int 0, d23, d24, d25, d26, d27, d28, d29, d30, d31, d32, d33, d34, d35, d36, d37, d38, d39, d40, d41, d42, d43, d44, d45, d46, d47, d48, d49, d50, d51, d52, d53, d54, d55]))])) (va_Qi (fun (r : Int32) (_ : Unit) => r = s_X12_said) (fun (_ : Unit) _ => True) (fun _ => False)) 0 0 (fun _ => False) := by
  refine Met.ofW (cc := cX12_said) (maxL := 4) (ret := (some .int)) (by decide) rfl ?_
  intro p e s m args below meth c s₁ B hml hv
  obtain ⟨rfl, hsz, hP, hK, hD0, hG⟩ := hv
  have hx := B.exec
  have hb := B.bytes
  have hr := B.returns
  have hts := atoms_spec (ws := wsX12_said) B.pre
  have hown : s.vm.findClass RX12 = some m.cls := findClass_of_methodNamed B.named
  have hlocks := B.notSynchronized
  subst hsz
  have hS : va_S (fun _ : Nat => False) s.heap s.heap [] := va_S.rf
  have hP : va_P (dC, dI) vwCl [(h0, .inr (12, [d0, d1, d2, d3, d4, d5, d6, d7, d8, d9, d10, d11, d12, d13, d14, d15, d16, d17, d18, d19, d20, d21, .int 0, d23, d24, d25, d26, d27, d28, d29, d30, d31, d32, d33, d34, d35, d36, d37, d38, d39, d40, d41, d42, d43, d44, d45, d46, d47, d48, d49, d50, d51, d52, d53, d54, d55]))] s.heap := hP
  have hl := lv_entry ([.ref h0, .int p0, .int p1, .int p2]) (n := 4) (Nat.le_of_ble_eq_true rfl)
  rw [lg_entry_eq]
  generalize (lg_sl ([.ref h0, .int p0, .int p1, .int p2]) ++ List.replicate (4 - (lg_sl ([.ref h0, .int p0, .int p1, .int p2])).length) Slot.unset).toArray = ls at hl ⊢
  have hl : lv_has ls 4 [(0, .ref h0), (1, .int p0), (2, .int p1), (3, .int p2)] := hl
  refine lv_aload_n hx hb dX12_said_0 rfl (lv_at hl 0 rfl) ?_
  refine lv_iload_n hx hb dX12_said_1 rfl (lv_at hl 1 rfl) ?_
  refine lv_iload_n hx hb dX12_said_2 rfl (lv_at hl 2 rfl) ?_
  have hPc := hP.sub (ws' := [(h0, .inr (12, [d0, d1, d2, d3, d4, d5, d6, d7, d8, d9, d10, d11, d12, d13, d14, d15, d16, d17, d18, d19, d20, d21, .int 0, d23, d24, d25, d26, d27, d28, d29, d30, d31, d32, d33, d34, d35, d36, d37, d38, d39, d40, d41, d42, d43, d44, d45, d46, d47, d48, d49, d50, d51, d52, d53, d54, d55]))]) [0] rfl
  have hDc := hD0.sub (ws' := [(h0, .inr (12, [d0, d1, d2, d3, d4, d5, d6, d7, d8, d9, d10, d11, d12, d13, d14, d15, d16, d17, d18, d19, d20, d21, .int 0, d23, d24, d25, d26, d27, d28, d29, d30, d31, d32, d33, d34, d35, d36, d37, d38, d39, d40, d41, d42, d43, d44, d45, d46, d47, d48, d49, d50, d51, d52, d53, d54, d55]))]) [0] (by decide) rfl
  refine va_calli (va_runV (As := [.int p0, .int p1]) (rest := []) ⟨hx, hb, hml, hown, hts⟩ (c_X12_areTwo l dC dI cI cZ s.heap.size h0 d0 d1 d2 d3 d4 d5 d6 d7 d8 d9 d10 d11 d12 d13 d14 d15 d16 d17 d18 d19 d20 d21 d23 d24 d25 d26 d27 d28 d29 d30 d31 d32 d33 d34 d35 d36 d37 d38 d39 d40 d41 d42 d43 d44 d45 d46 d47 d48 d49 d50 d51 d52 d53 d54 d55 p0 p1) (cwV 2 hts gX12_said_X12_areTwo rfl rfl rfl (by decide +kernel) ⟨Nat.le_of_ble_eq_true rfl, Nat.le_of_ble_eq_true rfl⟩) (zPreV hPc hK hDc hG (ci := 12) (q0 := 0) rfl rfl) rfl rfl hl.1 rfl (lv_room (Nat.le_of_ble_eq_true rfl)) dX12_said_3 ⟨Nat.le_of_ble_eq_true rfl, Nat.le_of_ble_eq_true rfl⟩) hS (fun _ _ h => h.elim) (fun _ h => h.elim) (fun r1 u9 t9 H1 locs ht9 hvm hwr1 hB9 hz1 hk1 hS => ?_)
  replace hP := zKept hP hk1
  try clear hB9 hz1 hk1 hvm ht9 u9 hPc hDc
  generalize H1 = H at hP hS ⊢
  obtain rfl : r1 = 0 := hwr1.trans rfl
  refine lv_if_eq (tgt := 18) hx hb dX12_said_6 (by decide) (fun _ => ?_) (fun c9 => absurd (by decide) c9)
  refine lv_iconst (v := (-1)) hx hb dX12_said_18 (by decide) ?_
  exact W.iret (v := (-1)) hx hb hr (fun t ht hW => ⟨⟨(-1), (), rfl, (by unfold s_X12_said; first | rfl | simp), trivial⟩, hS.F ht⟩) hS.2.2 dX12_said_19

def s_X12_game : Int32 := (-1000000)
set_option maxHeartbeats 4000000 in
set_option maxRecDepth 100000 in
theorem c_X12_game (l : Launch) (dC : Nat → ClassId) (dI : Nat → Nat → Nat) (cI cZ : ClassId) (sz : Nat) (h0 : Nat) (d0 : Value) (d1 : Value) (d2 : Value) (d3 : Value) (d4 : Value) (d5 : Value) (d6 : Value) (d7 : Value) (d8 : Value) (d9 : Value) (d10 : Value) (d11 : Value) (d12 : Value) (d13 : Value) (d14 : Value) (d15 : Value) (d16 : Value) (d17 : Value) (d18 : Value) (d19 : Value) (d20 : Value) (d21 : Value) (d23 : Value) (d24 : Value) (d25 : Value) (d26 : Value) (d27 : Value) (d28 : Value) (d29 : Value) (d30 : Value) (d31 : Value) (d32 : Value) (d33 : Value) (d34 : Value) (d35 : Value) (d36 : Value) (d37 : Value) (d38 : Value) (d39 : Value) (d40 : Value) (d41 : Value) (d42 : Value) (d43 : Value) (d44 : Value) (d45 : Value) (d46 : Value) (d47 : Value) (d48 : Value) (d49 : Value) (d50 : Value) (d51 : Value) (d52 : Value) (d53 : Value) (d54 : Value) (d55 : Value) (p0 : Int32) (p1 : Int32) (p2 : Int32) (p3 : Int32) (p4 : Int32) : Met l yX12_game wsX12_game ({ frames := 3, cells := 0, slots := 0, locals := 65 }) (va_Pc [.ref h0, .int p0, .int p1, .int p2, .int p3, .int p4] (zPre dC dI cI cZ sz [(h0, .inr (12, [d0, d1, d2, d3, d4, d5, d6, d7, d8, d9, d10, d11, d12, d13, d14, d15, d16, d17, d18, d19, d20, d21, .int 0, d23, d24, d25, d26, d27, d28, d29, d30, d31, d32, d33, d34, d35, d36, d37, d38, d39, d40, d41, d42, d43, d44, d45, d46, d47, d48, d49, d50, d51, d52, d53, d54, d55]))])) (va_Qi (fun (r : Int32) (_ : Unit) => r = s_X12_game) (fun (_ : Unit) _ => True) (fun _ => False)) 0 0 (fun _ => False) := by
  refine Met.ofW (cc := cX12_game) (maxL := 6) (ret := (some .int)) (by decide) rfl ?_
  intro p e s m args below meth c s₁ B hml hv
  obtain ⟨rfl, hsz, hP, hK, hD0, hG⟩ := hv
  have hx := B.exec
  have hb := B.bytes
  have hr := B.returns
  have hts := atoms_spec (ws := wsX12_game) B.pre
  have hown : s.vm.findClass RX12 = some m.cls := findClass_of_methodNamed B.named
  have hlocks := B.notSynchronized
  subst hsz
  have hS : va_S (fun _ : Nat => False) s.heap s.heap [] := va_S.rf
  have hP : va_P (dC, dI) vwCl [(h0, .inr (12, [d0, d1, d2, d3, d4, d5, d6, d7, d8, d9, d10, d11, d12, d13, d14, d15, d16, d17, d18, d19, d20, d21, .int 0, d23, d24, d25, d26, d27, d28, d29, d30, d31, d32, d33, d34, d35, d36, d37, d38, d39, d40, d41, d42, d43, d44, d45, d46, d47, d48, d49, d50, d51, d52, d53, d54, d55]))] s.heap := hP
  have hl := lv_entry ([.ref h0, .int p0, .int p1, .int p2, .int p3, .int p4]) (n := 6) (Nat.le_of_ble_eq_true rfl)
  rw [lg_entry_eq]
  generalize (lg_sl ([.ref h0, .int p0, .int p1, .int p2, .int p3, .int p4]) ++ List.replicate (6 - (lg_sl ([.ref h0, .int p0, .int p1, .int p2, .int p3, .int p4])).length) Slot.unset).toArray = ls at hl ⊢
  have hl : lv_has ls 6 [(0, .ref h0), (1, .int p0), (2, .int p1), (3, .int p2), (4, .int p3), (5, .int p4)] := hl
  refine lv_aload_n hx hb dX12_game_0 rfl (lv_at hl 0 rfl) ?_
  refine lv_iload_n hx hb dX12_game_1 rfl (lv_at hl 1 rfl) ?_
  refine lv_iload_n hx hb dX12_game_2 rfl (lv_at hl 2 rfl) ?_
  have hPc := hP.sub (ws' := [(h0, .inr (12, [d0, d1, d2, d3, d4, d5, d6, d7, d8, d9, d10, d11, d12, d13, d14, d15, d16, d17, d18, d19, d20, d21, .int 0, d23, d24, d25, d26, d27, d28, d29, d30, d31, d32, d33, d34, d35, d36, d37, d38, d39, d40, d41, d42, d43, d44, d45, d46, d47, d48, d49, d50, d51, d52, d53, d54, d55]))]) [0] rfl
  have hDc := hD0.sub (ws' := [(h0, .inr (12, [d0, d1, d2, d3, d4, d5, d6, d7, d8, d9, d10, d11, d12, d13, d14, d15, d16, d17, d18, d19, d20, d21, .int 0, d23, d24, d25, d26, d27, d28, d29, d30, d31, d32, d33, d34, d35, d36, d37, d38, d39, d40, d41, d42, d43, d44, d45, d46, d47, d48, d49, d50, d51, d52, d53, d54, d55]))]) [0] (by decide) rfl
  refine va_calli (va_runV (As := [.int p0, .int p1]) (rest := []) ⟨hx, hb, hml, hown, hts⟩ (c_X12_areTwo l dC dI cI cZ s.heap.size h0 d0 d1 d2 d3 d4 d5 d6 d7 d8 d9 d10 d11 d12 d13 d14 d15 d16 d17 d18 d19 d20 d21 d23 d24 d25 d26 d27 d28 d29 d30 d31 d32 d33 d34 d35 d36 d37 d38 d39 d40 d41 d42 d43 d44 d45 d46 d47 d48 d49 d50 d51 d52 d53 d54 d55 p0 p1) (cwV 2 hts gX12_game_X12_areTwo rfl rfl rfl (by decide +kernel) ⟨Nat.le_of_ble_eq_true rfl, Nat.le_of_ble_eq_true rfl⟩) (zPreV hPc hK hDc hG (ci := 12) (q0 := 0) rfl rfl) rfl rfl hl.1 rfl (lv_room (Nat.le_of_ble_eq_true rfl)) dX12_game_3 ⟨Nat.le_of_ble_eq_true rfl, Nat.le_of_ble_eq_true rfl⟩) hS (fun _ _ h => h.elim) (fun _ h => h.elim) (fun r1 u9 t9 H1 locs ht9 hvm hwr1 hB9 hz1 hk1 hS => ?_)
  replace hP := zKept hP hk1
  try clear hB9 hz1 hk1 hvm ht9 u9 hPc hDc
  generalize H1 = H at hP hS ⊢
  obtain rfl : r1 = 0 := hwr1.trans rfl
  refine lv_if_eq (tgt := 38) hx hb dX12_game_6 (by decide) (fun _ => ?_) (fun c9 => absurd (by decide) c9)
  refine lv_ldcw (own := RX12) (v := (-1000000)) hx hb hown (hts (.constant RX12 377 (-1000000)) (by decide +kernel)) dX12_game_38 ?_
  exact W.iret (v := (-1000000)) hx hb hr (fun t ht hW => ⟨⟨(-1000000), (), rfl, (by unfold s_X12_game; first | rfl | simp), trivial⟩, hS.F ht⟩) hS.2.2 dX12_game_41

def s_X12_rests : Int32 := (-1)
set_option maxHeartbeats 4000000 in
set_option maxRecDepth 100000 in
theorem c_X12_rests (l : Launch) (dC : Nat → ClassId) (dI : Nat → Nat → Nat) (cI cZ : ClassId) (sz : Nat) (h0 : Nat) (d0 : Value) (d1 : Value) (d2 : Value) (d3 : Value) (d4 : Value) (d5 : Value) (d6 : Value) (d7 : Value) (d8 : Value) (d9 : Value) (d10 : Value) (d11 : Value) (d12 : Value) (d13 : Value) (d14 : Value) (d15 : Value) (d16 : Value) (d17 : Value) (d18 : Value) (d19 : Value) (d20 : Value) (d21 : Value) (d23 : Value) (d24 : Value) (d25 : Value) (d26 : Value) (d27 : Value) (d28 : Value) (d29 : Value) (d30 : Value) (d31 : Value) (d32 : Value) (d33 : Value) (d34 : Value) (d35 : Value) (d36 : Value) (d37 : Value) (d38 : Value) (d39 : Value) (d40 : Value) (d41 : Value) (d42 : Value) (d43 : Value) (d44 : Value) (d45 : Value) (d46 : Value) (d47 : Value) (d48 : Value) (d49 : Value) (d50 : Value) (d51 : Value) (d52 : Value) (d53 : Value) (d54 : Value) (d55 : Value) (p0 : Int32) (p1 : Int32) (p2 : Int32) : Met l yX12_rests wsX12_rests ({ frames := 3, cells := 0, slots := 0, locals := 65 }) (va_Pc [.ref h0, .int p0, .int p1, .int p2] (zPre dC dI cI cZ sz [(h0, .inr (12, [d0, d1, d2, d3, d4, d5, d6, d7, d8, d9, d10, d11, d12, d13, d14, d15, d16, d17, d18, d19, d20, d21, .int 0, d23, d24, d25, d26, d27, d28, d29, d30, d31, d32, d33, d34, d35, d36, d37, d38, d39, d40, d41, d42, d43, d44, d45, d46, d47, d48, d49, d50, d51, d52, d53, d54, d55]))])) (va_Qi (fun (r : Int32) (_ : Unit) => r = s_X12_rests) (fun (_ : Unit) _ => True) (fun _ => False)) 0 0 (fun _ => False) := by
  refine Met.ofW (cc := cX12_rests) (maxL := 6) (ret := (some .int)) (by decide) rfl ?_
  intro p e s m args below meth c s₁ B hml hv
  obtain ⟨rfl, hsz, hP, hK, hD0, hG⟩ := hv
  have hx := B.exec
  have hb := B.bytes
  have hr := B.returns
  have hts := atoms_spec (ws := wsX12_rests) B.pre
  have hown : s.vm.findClass RX12 = some m.cls := findClass_of_methodNamed B.named
  have hlocks := B.notSynchronized
  subst hsz
  have hS : va_S (fun _ : Nat => False) s.heap s.heap [] := va_S.rf
  have hP : va_P (dC, dI) vwCl [(h0, .inr (12, [d0, d1, d2, d3, d4, d5, d6, d7, d8, d9, d10, d11, d12, d13, d14, d15, d16, d17, d18, d19, d20, d21, .int 0, d23, d24, d25, d26, d27, d28, d29, d30, d31, d32, d33, d34, d35, d36, d37, d38, d39, d40, d41, d42, d43, d44, d45, d46, d47, d48, d49, d50, d51, d52, d53, d54, d55]))] s.heap := hP
  have hl := lv_entry ([.ref h0, .int p0, .int p1, .int p2]) (n := 6) (Nat.le_of_ble_eq_true rfl)
  rw [lg_entry_eq]
  generalize (lg_sl ([.ref h0, .int p0, .int p1, .int p2]) ++ List.replicate (6 - (lg_sl ([.ref h0, .int p0, .int p1, .int p2])).length) Slot.unset).toArray = ls at hl ⊢
  have hl : lv_has ls 6 [(0, .ref h0), (1, .int p0), (2, .int p1), (3, .int p2)] := hl
  refine lv_aload_n hx hb dX12_rests_0 rfl (lv_at hl 0 rfl) ?_
  refine lv_iload_n hx hb dX12_rests_1 rfl (lv_at hl 1 rfl) ?_
  refine lv_iload_n hx hb dX12_rests_2 rfl (lv_at hl 2 rfl) ?_
  have hPc := hP.sub (ws' := [(h0, .inr (12, [d0, d1, d2, d3, d4, d5, d6, d7, d8, d9, d10, d11, d12, d13, d14, d15, d16, d17, d18, d19, d20, d21, .int 0, d23, d24, d25, d26, d27, d28, d29, d30, d31, d32, d33, d34, d35, d36, d37, d38, d39, d40, d41, d42, d43, d44, d45, d46, d47, d48, d49, d50, d51, d52, d53, d54, d55]))]) [0] rfl
  have hDc := hD0.sub (ws' := [(h0, .inr (12, [d0, d1, d2, d3, d4, d5, d6, d7, d8, d9, d10, d11, d12, d13, d14, d15, d16, d17, d18, d19, d20, d21, .int 0, d23, d24, d25, d26, d27, d28, d29, d30, d31, d32, d33, d34, d35, d36, d37, d38, d39, d40, d41, d42, d43, d44, d45, d46, d47, d48, d49, d50, d51, d52, d53, d54, d55]))]) [0] (by decide) rfl
  refine va_calli (va_runV (As := [.int p0, .int p1]) (rest := []) ⟨hx, hb, hml, hown, hts⟩ (c_X12_areTwo l dC dI cI cZ s.heap.size h0 d0 d1 d2 d3 d4 d5 d6 d7 d8 d9 d10 d11 d12 d13 d14 d15 d16 d17 d18 d19 d20 d21 d23 d24 d25 d26 d27 d28 d29 d30 d31 d32 d33 d34 d35 d36 d37 d38 d39 d40 d41 d42 d43 d44 d45 d46 d47 d48 d49 d50 d51 d52 d53 d54 d55 p0 p1) (cwV 2 hts gX12_rests_X12_areTwo rfl rfl rfl (by decide +kernel) ⟨Nat.le_of_ble_eq_true rfl, Nat.le_of_ble_eq_true rfl⟩) (zPreV hPc hK hDc hG (ci := 12) (q0 := 0) rfl rfl) rfl rfl hl.1 rfl (lv_room (Nat.le_of_ble_eq_true rfl)) dX12_rests_3 ⟨Nat.le_of_ble_eq_true rfl, Nat.le_of_ble_eq_true rfl⟩) hS (fun _ _ h => h.elim) (fun _ h => h.elim) (fun r1 u9 t9 H1 locs ht9 hvm hwr1 hB9 hz1 hk1 hS => ?_)
  replace hP := zKept hP hk1
  try clear hB9 hz1 hk1 hvm ht9 u9 hPc hDc
  generalize H1 = H at hP hS ⊢
  obtain rfl : r1 = 0 := hwr1.trans rfl
  refine lv_if_eq (tgt := 14) hx hb dX12_rests_6 (by decide) (fun _ => ?_) (fun c9 => absurd (by decide) c9)
  refine lv_iconst (v := (-1)) hx hb dX12_rests_14 (by decide) ?_
  exact W.iret (v := (-1)) hx hb hr (fun t ht hW => ⟨⟨(-1), (), rfl, (by unfold s_X12_rests; first | rfl | simp), trivial⟩, hS.F ht⟩) hS.2.2 dX12_rests_15

def s_X12_shares : Int32 := (-1)
set_option maxHeartbeats 4000000 in
set_option maxRecDepth 100000 in
theorem c_X12_shares (l : Launch) (dC : Nat → ClassId) (dI : Nat → Nat → Nat) (cI cZ : ClassId) (sz : Nat) (h0 : Nat) (d0 : Value) (d1 : Value) (d2 : Value) (d3 : Value) (d4 : Value) (d5 : Value) (d6 : Value) (d7 : Value) (d8 : Value) (d9 : Value) (d10 : Value) (d11 : Value) (d12 : Value) (d13 : Value) (d14 : Value) (d15 : Value) (d16 : Value) (d17 : Value) (d18 : Value) (d19 : Value) (d20 : Value) (d21 : Value) (d23 : Value) (d24 : Value) (d25 : Value) (d26 : Value) (d27 : Value) (d28 : Value) (d29 : Value) (d30 : Value) (d31 : Value) (d32 : Value) (d33 : Value) (d34 : Value) (d35 : Value) (d36 : Value) (d37 : Value) (d38 : Value) (d39 : Value) (d40 : Value) (d41 : Value) (d42 : Value) (d43 : Value) (d44 : Value) (d45 : Value) (d46 : Value) (d47 : Value) (d48 : Value) (d49 : Value) (d50 : Value) (d51 : Value) (d52 : Value) (d53 : Value) (d54 : Value) (d55 : Value) (p0 : Int32) (p1 : Int32) : Met l yX12_shares wsX12_shares ({ frames := 2, cells := 0, slots := 0, locals := 43 }) (va_Pc [.ref h0, .int p0, .int p1] (zPre dC dI cI cZ sz [(h0, .inr (12, [d0, d1, d2, d3, d4, d5, d6, d7, d8, d9, d10, d11, d12, d13, d14, d15, d16, d17, d18, d19, d20, d21, .int 0, d23, d24, d25, d26, d27, d28, d29, d30, d31, d32, d33, d34, d35, d36, d37, d38, d39, d40, d41, d42, d43, d44, d45, d46, d47, d48, d49, d50, d51, d52, d53, d54, d55]))])) (va_Qi (fun (r : Int32) (_ : Unit) => r = s_X12_shares) (fun (_ : Unit) _ => True) (fun _ => False)) 0 0 (fun _ => False) := by
  refine Met.ofW (cc := cX12_shares) (maxL := 3) (ret := (some .int)) (by decide) rfl ?_
  intro p e s m args below meth c s₁ B hml hv
  obtain ⟨rfl, hsz, hP, hK, hD0, hG⟩ := hv
  have hx := B.exec
  have hb := B.bytes
  have hr := B.returns
  have hts := atoms_spec (ws := wsX12_shares) B.pre
  have hown : s.vm.findClass RX12 = some m.cls := findClass_of_methodNamed B.named
  have hlocks := B.notSynchronized
  subst hsz
  have hS : va_S (fun _ : Nat => False) s.heap s.heap [] := va_S.rf
  have hP : va_P (dC, dI) vwCl [(h0, .inr (12, [d0, d1, d2, d3, d4, d5, d6, d7, d8, d9, d10, d11, d12, d13, d14, d15, d16, d17, d18, d19, d20, d21, .int 0, d23, d24, d25, d26, d27, d28, d29, d30, d31, d32, d33, d34, d35, d36, d37, d38, d39, d40, d41, d42, d43, d44, d45, d46, d47, d48, d49, d50, d51, d52, d53, d54, d55]))] s.heap := hP
  have hl := lv_entry ([.ref h0, .int p0, .int p1]) (n := 3) (Nat.le_of_ble_eq_true rfl)
  rw [lg_entry_eq]
  generalize (lg_sl ([.ref h0, .int p0, .int p1]) ++ List.replicate (3 - (lg_sl ([.ref h0, .int p0, .int p1])).length) Slot.unset).toArray = ls at hl ⊢
  have hl : lv_has ls 3 [(0, .ref h0), (1, .int p0), (2, .int p1)] := hl
  refine lv_aload_n hx hb dX12_shares_0 rfl (lv_at hl 0 rfl) ?_
  refine lv_iload_n hx hb dX12_shares_1 rfl (lv_at hl 1 rfl) ?_
  have hPc := hP.sub (ws' := [(h0, .inr (12, [d0, d1, d2, d3, d4, d5, d6, d7, d8, d9, d10, d11, d12, d13, d14, d15, d16, d17, d18, d19, d20, d21, .int 0, d23, d24, d25, d26, d27, d28, d29, d30, d31, d32, d33, d34, d35, d36, d37, d38, d39, d40, d41, d42, d43, d44, d45, d46, d47, d48, d49, d50, d51, d52, d53, d54, d55]))]) [0] rfl
  have hDc := hD0.sub (ws' := [(h0, .inr (12, [d0, d1, d2, d3, d4, d5, d6, d7, d8, d9, d10, d11, d12, d13, d14, d15, d16, d17, d18, d19, d20, d21, .int 0, d23, d24, d25, d26, d27, d28, d29, d30, d31, d32, d33, d34, d35, d36, d37, d38, d39, d40, d41, d42, d43, d44, d45, d46, d47, d48, d49, d50, d51, d52, d53, d54, d55]))]) [0] (by decide) rfl
  refine va_calli (va_runV (As := [.int p0]) (rest := []) ⟨hx, hb, hml, hown, hts⟩ (c_X12_isMan l dC dI cI cZ s.heap.size h0 d0 d1 d2 d3 d4 d5 d6 d7 d8 d9 d10 d11 d12 d13 d14 d15 d16 d17 d18 d19 d20 d21 d23 d24 d25 d26 d27 d28 d29 d30 d31 d32 d33 d34 d35 d36 d37 d38 d39 d40 d41 d42 d43 d44 d45 d46 d47 d48 d49 d50 d51 d52 d53 d54 d55 p0) (cwV 1 hts gX12_shares_X12_isMan rfl rfl rfl (by decide +kernel) ⟨Nat.le_of_ble_eq_true rfl, Nat.le_of_ble_eq_true rfl⟩) (zPreV hPc hK hDc hG (ci := 12) (q0 := 0) rfl rfl) rfl rfl hl.1 rfl (lv_room (Nat.le_of_ble_eq_true rfl)) dX12_shares_2 ⟨Nat.le_of_ble_eq_true rfl, Nat.le_of_ble_eq_true rfl⟩) hS (fun _ _ h => h.elim) (fun _ h => h.elim) (fun r1 u9 t9 H1 locs ht9 hvm hwr1 hB9 hz1 hk1 hS => ?_)
  replace hP := zKept hP hk1
  try clear hB9 hz1 hk1 hvm ht9 u9 hPc hDc
  generalize H1 = H at hP hS ⊢
  obtain rfl : r1 = 0 := hwr1.trans rfl
  refine lv_if_eq (tgt := 19) hx hb dX12_shares_5 (by decide) (fun _ => ?_) (fun c9 => absurd (by decide) c9)
  refine lv_iconst (v := (-1)) hx hb dX12_shares_19 (by decide) ?_
  exact W.iret (v := (-1)) hx hb hr (fun t ht hW => ⟨⟨(-1), (), rfl, (by unfold s_X12_shares; first | rfl | simp), trivial⟩, hS.F ht⟩) hS.2.2 dX12_shares_20

def s_X12_watcher : Int32 := (-1)
set_option maxHeartbeats 4000000 in
set_option maxRecDepth 100000 in
theorem c_X12_watcher (l : Launch) (dC : Nat → ClassId) (dI : Nat → Nat → Nat) (cI cZ : ClassId) (sz : Nat) (h0 : Nat) (d0 : Value) (d1 : Value) (d2 : Value) (d3 : Value) (d4 : Value) (d5 : Value) (d6 : Value) (d7 : Value) (d8 : Value) (d9 : Value) (d10 : Value) (d11 : Value) (d12 : Value) (d13 : Value) (d14 : Value) (d15 : Value) (d16 : Value) (d17 : Value) (d18 : Value) (d19 : Value) (d20 : Value) (d21 : Value) (d23 : Value) (d24 : Value) (d25 : Value) (d26 : Value) (d27 : Value) (d28 : Value) (d29 : Value) (d30 : Value) (d31 : Value) (d32 : Value) (d33 : Value) (d34 : Value) (d35 : Value) (d36 : Value) (d37 : Value) (d38 : Value) (d39 : Value) (d40 : Value) (d41 : Value) (d42 : Value) (d43 : Value) (d44 : Value) (d45 : Value) (d46 : Value) (d47 : Value) (d48 : Value) (d49 : Value) (d50 : Value) (d51 : Value) (d52 : Value) (d53 : Value) (d54 : Value) (d55 : Value) (p0 : Int32) : Met l yX12_watcher wsX12_watcher ({ frames := 2, cells := 0, slots := 0, locals := 43 }) (va_Pc [.ref h0, .int p0] (zPre dC dI cI cZ sz [(h0, .inr (12, [d0, d1, d2, d3, d4, d5, d6, d7, d8, d9, d10, d11, d12, d13, d14, d15, d16, d17, d18, d19, d20, d21, .int 0, d23, d24, d25, d26, d27, d28, d29, d30, d31, d32, d33, d34, d35, d36, d37, d38, d39, d40, d41, d42, d43, d44, d45, d46, d47, d48, d49, d50, d51, d52, d53, d54, d55]))])) (va_Qi (fun (r : Int32) (_ : Unit) => r = s_X12_watcher) (fun (_ : Unit) _ => True) (fun _ => False)) 0 0 (fun _ => False) := by
  refine Met.ofW (cc := cX12_watcher) (maxL := 2) (ret := (some .int)) (by decide) rfl ?_
  intro p e s m args below meth c s₁ B hml hv
  obtain ⟨rfl, hsz, hP, hK, hD0, hG⟩ := hv
  have hx := B.exec
  have hb := B.bytes
  have hr := B.returns
  have hts := atoms_spec (ws := wsX12_watcher) B.pre
  have hown : s.vm.findClass RX12 = some m.cls := findClass_of_methodNamed B.named
  have hlocks := B.notSynchronized
  subst hsz
  have hS : va_S (fun _ : Nat => False) s.heap s.heap [] := va_S.rf
  have hP : va_P (dC, dI) vwCl [(h0, .inr (12, [d0, d1, d2, d3, d4, d5, d6, d7, d8, d9, d10, d11, d12, d13, d14, d15, d16, d17, d18, d19, d20, d21, .int 0, d23, d24, d25, d26, d27, d28, d29, d30, d31, d32, d33, d34, d35, d36, d37, d38, d39, d40, d41, d42, d43, d44, d45, d46, d47, d48, d49, d50, d51, d52, d53, d54, d55]))] s.heap := hP
  have hl := lv_entry ([.ref h0, .int p0]) (n := 2) (Nat.le_of_ble_eq_true rfl)
  rw [lg_entry_eq]
  generalize (lg_sl ([.ref h0, .int p0]) ++ List.replicate (2 - (lg_sl ([.ref h0, .int p0])).length) Slot.unset).toArray = ls at hl ⊢
  have hl : lv_has ls 2 [(0, .ref h0), (1, .int p0)] := hl
  refine lv_aload_n hx hb dX12_watcher_0 rfl (lv_at hl 0 rfl) ?_
  refine lv_iload_n hx hb dX12_watcher_1 rfl (lv_at hl 1 rfl) ?_
  have hPc := hP.sub (ws' := [(h0, .inr (12, [d0, d1, d2, d3, d4, d5, d6, d7, d8, d9, d10, d11, d12, d13, d14, d15, d16, d17, d18, d19, d20, d21, .int 0, d23, d24, d25, d26, d27, d28, d29, d30, d31, d32, d33, d34, d35, d36, d37, d38, d39, d40, d41, d42, d43, d44, d45, d46, d47, d48, d49, d50, d51, d52, d53, d54, d55]))]) [0] rfl
  have hDc := hD0.sub (ws' := [(h0, .inr (12, [d0, d1, d2, d3, d4, d5, d6, d7, d8, d9, d10, d11, d12, d13, d14, d15, d16, d17, d18, d19, d20, d21, .int 0, d23, d24, d25, d26, d27, d28, d29, d30, d31, d32, d33, d34, d35, d36, d37, d38, d39, d40, d41, d42, d43, d44, d45, d46, d47, d48, d49, d50, d51, d52, d53, d54, d55]))]) [0] (by decide) rfl
  refine va_calli (va_runV (As := [.int p0]) (rest := []) ⟨hx, hb, hml, hown, hts⟩ (c_X12_isMan l dC dI cI cZ s.heap.size h0 d0 d1 d2 d3 d4 d5 d6 d7 d8 d9 d10 d11 d12 d13 d14 d15 d16 d17 d18 d19 d20 d21 d23 d24 d25 d26 d27 d28 d29 d30 d31 d32 d33 d34 d35 d36 d37 d38 d39 d40 d41 d42 d43 d44 d45 d46 d47 d48 d49 d50 d51 d52 d53 d54 d55 p0) (cwV 1 hts gX12_watcher_X12_isMan rfl rfl rfl (by decide +kernel) ⟨Nat.le_of_ble_eq_true rfl, Nat.le_of_ble_eq_true rfl⟩) (zPreV hPc hK hDc hG (ci := 12) (q0 := 0) rfl rfl) rfl rfl hl.1 rfl (lv_room (Nat.le_of_ble_eq_true rfl)) dX12_watcher_2 ⟨Nat.le_of_ble_eq_true rfl, Nat.le_of_ble_eq_true rfl⟩) hS (fun _ _ h => h.elim) (fun _ h => h.elim) (fun r1 u9 t9 H1 locs ht9 hvm hwr1 hB9 hz1 hk1 hS => ?_)
  replace hP := zKept hP hk1
  try clear hB9 hz1 hk1 hvm ht9 u9 hPc hDc
  generalize H1 = H at hP hS ⊢
  obtain rfl : r1 = 0 := hwr1.trans rfl
  refine lv_if_eq (tgt := 16) hx hb dX12_watcher_5 (by decide) (fun _ => ?_) (fun c9 => absurd (by decide) c9)
  refine lv_iconst (v := (-1)) hx hb dX12_watcher_16 (by decide) ?_
  exact W.iret (v := (-1)) hx hb hr (fun t ht hW => ⟨⟨(-1), (), rfl, (by unfold s_X12_watcher; first | rfl | simp), trivial⟩, hS.F ht⟩) hS.2.2 dX12_watcher_17

def s_X12_spare : Int32 := (-1)
set_option maxHeartbeats 4000000 in
set_option maxRecDepth 100000 in
theorem c_X12_spare (l : Launch) (dC : Nat → ClassId) (dI : Nat → Nat → Nat) (cI cZ : ClassId) (sz : Nat) (h0 : Nat) (d0 : Value) (d1 : Value) (d2 : Value) (d3 : Value) (d4 : Value) (d5 : Value) (d6 : Value) (d7 : Value) (d8 : Value) (d9 : Value) (d10 : Value) (d11 : Value) (d12 : Value) (d13 : Value) (d14 : Value) (d15 : Value) (d16 : Value) (d17 : Value) (d18 : Value) (d19 : Value) (d20 : Value) (d21 : Value) (d23 : Value) (d24 : Value) (d25 : Value) (d26 : Value) (d27 : Value) (d28 : Value) (d29 : Value) (d30 : Value) (d31 : Value) (d32 : Value) (d33 : Value) (d34 : Value) (d35 : Value) (d36 : Value) (d37 : Value) (d38 : Value) (d39 : Value) (d40 : Value) (d41 : Value) (d42 : Value) (d43 : Value) (d44 : Value) (d45 : Value) (d46 : Value) (d47 : Value) (d48 : Value) (d49 : Value) (d50 : Value) (d51 : Value) (d52 : Value) (d53 : Value) (d54 : Value) (d55 : Value) (p0 : Int32) : Met l yX12_spare wsX12_spare ({ frames := 2, cells := 0, slots := 0, locals := 43 }) (va_Pc [.ref h0, .int p0] (zPre dC dI cI cZ sz [(h0, .inr (12, [d0, d1, d2, d3, d4, d5, d6, d7, d8, d9, d10, d11, d12, d13, d14, d15, d16, d17, d18, d19, d20, d21, .int 0, d23, d24, d25, d26, d27, d28, d29, d30, d31, d32, d33, d34, d35, d36, d37, d38, d39, d40, d41, d42, d43, d44, d45, d46, d47, d48, d49, d50, d51, d52, d53, d54, d55]))])) (va_Qi (fun (r : Int32) (_ : Unit) => r = s_X12_spare) (fun (_ : Unit) _ => True) (fun _ => False)) 0 0 (fun _ => False) := by
  refine Met.ofW (cc := cX12_spare) (maxL := 2) (ret := (some .int)) (by decide) rfl ?_
  intro p e s m args below meth c s₁ B hml hv
  obtain ⟨rfl, hsz, hP, hK, hD0, hG⟩ := hv
  have hx := B.exec
  have hb := B.bytes
  have hr := B.returns
  have hts := atoms_spec (ws := wsX12_spare) B.pre
  have hown : s.vm.findClass RX12 = some m.cls := findClass_of_methodNamed B.named
  have hlocks := B.notSynchronized
  subst hsz
  have hS : va_S (fun _ : Nat => False) s.heap s.heap [] := va_S.rf
  have hP : va_P (dC, dI) vwCl [(h0, .inr (12, [d0, d1, d2, d3, d4, d5, d6, d7, d8, d9, d10, d11, d12, d13, d14, d15, d16, d17, d18, d19, d20, d21, .int 0, d23, d24, d25, d26, d27, d28, d29, d30, d31, d32, d33, d34, d35, d36, d37, d38, d39, d40, d41, d42, d43, d44, d45, d46, d47, d48, d49, d50, d51, d52, d53, d54, d55]))] s.heap := hP
  have hl := lv_entry ([.ref h0, .int p0]) (n := 2) (Nat.le_of_ble_eq_true rfl)
  rw [lg_entry_eq]
  generalize (lg_sl ([.ref h0, .int p0]) ++ List.replicate (2 - (lg_sl ([.ref h0, .int p0])).length) Slot.unset).toArray = ls at hl ⊢
  have hl : lv_has ls 2 [(0, .ref h0), (1, .int p0)] := hl
  refine lv_aload_n hx hb dX12_spare_0 rfl (lv_at hl 0 rfl) ?_
  refine lv_iload_n hx hb dX12_spare_1 rfl (lv_at hl 1 rfl) ?_
  have hPc := hP.sub (ws' := [(h0, .inr (12, [d0, d1, d2, d3, d4, d5, d6, d7, d8, d9, d10, d11, d12, d13, d14, d15, d16, d17, d18, d19, d20, d21, .int 0, d23, d24, d25, d26, d27, d28, d29, d30, d31, d32, d33, d34, d35, d36, d37, d38, d39, d40, d41, d42, d43, d44, d45, d46, d47, d48, d49, d50, d51, d52, d53, d54, d55]))]) [0] rfl
  have hDc := hD0.sub (ws' := [(h0, .inr (12, [d0, d1, d2, d3, d4, d5, d6, d7, d8, d9, d10, d11, d12, d13, d14, d15, d16, d17, d18, d19, d20, d21, .int 0, d23, d24, d25, d26, d27, d28, d29, d30, d31, d32, d33, d34, d35, d36, d37, d38, d39, d40, d41, d42, d43, d44, d45, d46, d47, d48, d49, d50, d51, d52, d53, d54, d55]))]) [0] (by decide) rfl
  refine va_calli (va_runV (As := [.int p0]) (rest := []) ⟨hx, hb, hml, hown, hts⟩ (c_X12_isMan l dC dI cI cZ s.heap.size h0 d0 d1 d2 d3 d4 d5 d6 d7 d8 d9 d10 d11 d12 d13 d14 d15 d16 d17 d18 d19 d20 d21 d23 d24 d25 d26 d27 d28 d29 d30 d31 d32 d33 d34 d35 d36 d37 d38 d39 d40 d41 d42 d43 d44 d45 d46 d47 d48 d49 d50 d51 d52 d53 d54 d55 p0) (cwV 1 hts gX12_spare_X12_isMan rfl rfl rfl (by decide +kernel) ⟨Nat.le_of_ble_eq_true rfl, Nat.le_of_ble_eq_true rfl⟩) (zPreV hPc hK hDc hG (ci := 12) (q0 := 0) rfl rfl) rfl rfl hl.1 rfl (lv_room (Nat.le_of_ble_eq_true rfl)) dX12_spare_2 ⟨Nat.le_of_ble_eq_true rfl, Nat.le_of_ble_eq_true rfl⟩) hS (fun _ _ h => h.elim) (fun _ h => h.elim) (fun r1 u9 t9 H1 locs ht9 hvm hwr1 hB9 hz1 hk1 hS => ?_)
  replace hP := zKept hP hk1
  try clear hB9 hz1 hk1 hvm ht9 u9 hPc hDc
  generalize H1 = H at hP hS ⊢
  obtain rfl : r1 = 0 := hwr1.trans rfl
  refine lv_if_eq (tgt := 24) hx hb dX12_spare_5 (by decide) (fun _ => ?_) (fun c9 => absurd (by decide) c9)
  refine lv_iconst (v := (-1)) hx hb dX12_spare_24 (by decide) ?_
  exact W.iret (v := (-1)) hx hb hr (fun t ht hW => ⟨⟨(-1), (), rfl, (by unfold s_X12_spare; first | rfl | simp), trivial⟩, hS.F ht⟩) hS.2.2 dX12_spare_25

def s_X12_bed : Int32 := (-1)
set_option maxHeartbeats 4000000 in
set_option maxRecDepth 100000 in
theorem c_X12_bed (l : Launch) (dC : Nat → ClassId) (dI : Nat → Nat → Nat) (cI cZ : ClassId) (sz : Nat) (h0 : Nat) (h1 : Nat) (d0 : Value) (d1 : Value) (d2 : Value) (d3 : Value) (d4 : Value) (d5 : Value) (d6 : Value) (d7 : Value) (d8 : Value) (d9 : Value) (d10 : Value) (d11 : Value) (d12 : Value) (d13 : Value) (d14 : Value) (d15 : Value) (d16 : Value) (d17 : Value) (d18 : Value) (d19 : Value) (d20 : Value) (d21 : Value) (d23 : Value) (d25 : Value) (d26 : Value) (d27 : Value) (d28 : Value) (d29 : Value) (d30 : Value) (d31 : Value) (d32 : Value) (d33 : Value) (d34 : Value) (d35 : Value) (d36 : Value) (d37 : Value) (d38 : Value) (d39 : Value) (d40 : Value) (d41 : Value) (d42 : Value) (d43 : Value) (d44 : Value) (d45 : Value) (d46 : Value) (d47 : Value) (d48 : Value) (d49 : Value) (d50 : Value) (d51 : Value) (d52 : Value) (d53 : Value) (d54 : Value) (d55 : Value) (p0 : Int32) (p1 : Int32) : Met l yX12_bed wsX12_bed ({ frames := 2, cells := 0, slots := 0, locals := 43 }) (va_Pc [.ref h0, .int p0, .int p1] (zPre dC dI cI cZ sz [(h0, .inr (12, [d0, d1, d2, d3, d4, d5, d6, d7, d8, d9, d10, d11, d12, d13, d14, d15, d16, d17, d18, d19, d20, d21, .int 0, d23, .ref h1, d25, d26, d27, d28, d29, d30, d31, d32, d33, d34, d35, d36, d37, d38, d39, d40, d41, d42, d43, d44, d45, d46, d47, d48, d49, d50, d51, d52, d53, d54, d55])), (h1, .inl (cI, 5, .inl (fun _ => 0)))])) (va_Qi (fun (r : Int32) (_ : Unit) => r = s_X12_bed) (fun (_ : Unit) _ => True) (va_A [(h0, .inr (12, [d0, d1, d2, d3, d4, d5, d6, d7, d8, d9, d10, d11, d12, d13, d14, d15, d16, d17, d18, d19, d20, d21, .int 0, d23, .ref h1, d25, d26, d27, d28, d29, d30, d31, d32, d33, d34, d35, d36, d37, d38, d39, d40, d41, d42, d43, d44, d45, d46, d47, d48, d49, d50, d51, d52, d53, d54, d55])), (h1, .inl (cI, 5, .inl (fun _ => 0)))] sz)) 0 0 (va_A [(h0, .inr (12, [d0, d1, d2, d3, d4, d5, d6, d7, d8, d9, d10, d11, d12, d13, d14, d15, d16, d17, d18, d19, d20, d21, .int 0, d23, .ref h1, d25, d26, d27, d28, d29, d30, d31, d32, d33, d34, d35, d36, d37, d38, d39, d40, d41, d42, d43, d44, d45, d46, d47, d48, d49, d50, d51, d52, d53, d54, d55])), (h1, .inl (cI, 5, .inl (fun _ => 0)))] sz) := by
  refine Met.ofW (cc := cX12_bed) (maxL := 4) (ret := (some .int)) (by decide) rfl ?_
  intro p e s m args below meth c s₁ B hml hv
  obtain ⟨rfl, hsz, hP, hK, hD0, hG⟩ := hv
  have hx := B.exec
  have hb := B.bytes
  have hr := B.returns
  have hts := atoms_spec (ws := wsX12_bed) B.pre
  have hown : s.vm.findClass RX12 = some m.cls := findClass_of_methodNamed B.named
  have hlocks := B.notSynchronized
  subst hsz
  have hD := hD0.self (sz := s.heap.size)
  generalize hAe : va_A [(h0, .inr (12, [d0, d1, d2, d3, d4, d5, d6, d7, d8, d9, d10, d11, d12, d13, d14, d15, d16, d17, d18, d19, d20, d21, .int 0, d23, .ref h1, d25, d26, d27, d28, d29, d30, d31, d32, d33, d34, d35, d36, d37, d38, d39, d40, d41, d42, d43, d44, d45, d46, d47, d48, d49, d50, d51, d52, d53, d54, d55])), (h1, .inl (cI, 5, .inl (fun _ => 0)))] s.heap.size = A at hD ⊢
  have hA : ∀ q : Nat, s.heap.size ≤ q → A q := fun q h => by rw [← hAe]; exact Or.inr h
  have hS : va_S A s.heap s.heap [] := va_S.rf
  have hP : va_P (dC, dI) vwCl [(h0, .inr (12, [d0, d1, d2, d3, d4, d5, d6, d7, d8, d9, d10, d11, d12, d13, d14, d15, d16, d17, d18, d19, d20, d21, .int 0, d23, .ref h1, d25, d26, d27, d28, d29, d30, d31, d32, d33, d34, d35, d36, d37, d38, d39, d40, d41, d42, d43, d44, d45, d46, d47, d48, d49, d50, d51, d52, d53, d54, d55])), (h1, .inl (cI, 5, .inl (fun _ => 0)))] s.heap := hP
  have hl := lv_entry ([.ref h0, .int p0, .int p1]) (n := 4) (Nat.le_of_ble_eq_true rfl)
  rw [lg_entry_eq]
  generalize (lg_sl ([.ref h0, .int p0, .int p1]) ++ List.replicate (4 - (lg_sl ([.ref h0, .int p0, .int p1])).length) Slot.unset).toArray = ls at hl ⊢
  have hl : lv_has ls 4 [(0, .ref h0), (1, .int p0), (2, .int p1)] := hl
  refine lv_aload_n hx hb dX12_bed_0 rfl (lv_at hl 0 rfl) ?_
  refine lv_aload_n hx hb dX12_bed_1 rfl (lv_at hl 0 rfl) ?_
  refine lv_iload_n hx hb dX12_bed_2 rfl (lv_at hl 1 rfl) ?_
  have hPc := hP.sub (ws' := [(h0, .inr (12, [d0, d1, d2, d3, d4, d5, d6, d7, d8, d9, d10, d11, d12, d13, d14, d15, d16, d17, d18, d19, d20, d21, .int 0, d23, .ref h1, d25, d26, d27, d28, d29, d30, d31, d32, d33, d34, d35, d36, d37, d38, d39, d40, d41, d42, d43, d44, d45, d46, d47, d48, d49, d50, d51, d52, d53, d54, d55]))]) [0] rfl
  have hDc := hD.sub (ws' := [(h0, .inr (12, [d0, d1, d2, d3, d4, d5, d6, d7, d8, d9, d10, d11, d12, d13, d14, d15, d16, d17, d18, d19, d20, d21, .int 0, d23, .ref h1, d25, d26, d27, d28, d29, d30, d31, d32, d33, d34, d35, d36, d37, d38, d39, d40, d41, d42, d43, d44, d45, d46, d47, d48, d49, d50, d51, d52, d53, d54, d55]))]) [0] (by decide) rfl
  refine va_calli (va_runV (As := [.int p0]) (rest := [.ref h0]) ⟨hx, hb, hml, hown, hts⟩ (c_X12_isMan l dC dI cI cZ s.heap.size h0 d0 d1 d2 d3 d4 d5 d6 d7 d8 d9 d10 d11 d12 d13 d14 d15 d16 d17 d18 d19 d20 d21 d23 (.ref h1) d25 d26 d27 d28 d29 d30 d31 d32 d33 d34 d35 d36 d37 d38 d39 d40 d41 d42 d43 d44 d45 d46 d47 d48 d49 d50 d51 d52 d53 d54 d55 p0) (cwV 1 hts gX12_bed_X12_isMan rfl rfl rfl (by decide +kernel) ⟨Nat.le_of_ble_eq_true rfl, Nat.le_of_ble_eq_true rfl⟩) (zPreV hPc hK hDc hG (ci := 12) (q0 := 0) rfl rfl) rfl rfl hl.1 rfl (lv_room (Nat.le_of_ble_eq_true rfl)) dX12_bed_3 ⟨Nat.le_of_ble_eq_true rfl, Nat.le_of_ble_eq_true rfl⟩) hS (fun _ _ h => h.elim) (fun _ h => h.elim) (fun r1 u9 t9 H1 locs ht9 hvm hwr1 hB9 hz1 hk1 hS => ?_)
  replace hP := zKept hP hk1
  try clear hB9 hz1 hk1 hvm ht9 u9 hPc hDc
  generalize H1 = H at hP hS ⊢
  obtain rfl : r1 = 0 := hwr1.trans rfl
  refine lv_if_ne (tgt := 13) hx hb dX12_bed_6 (by decide) (fun c9 => absurd (by decide) c9) (fun _ => ?_)
  refine lv_iconst (v := 0) hx hb dX12_bed_9 (by decide) ?_
  refine lv_goto (tgt := 42) hx hb dX12_bed_10 (by decide) ?_
  have hPc := hP.sub (ws' := [(h0, .inr (12, [d0, d1, d2, d3, d4, d5, d6, d7, d8, d9, d10, d11, d12, d13, d14, d15, d16, d17, d18, d19, d20, d21, .int 0, d23, .ref h1, d25, d26, d27, d28, d29, d30, d31, d32, d33, d34, d35, d36, d37, d38, d39, d40, d41, d42, d43, d44, d45, d46, d47, d48, d49, d50, d51, d52, d53, d54, d55])), (h1, .inl (cI, 5, .inl (fun _ => 0)))]) [0, 1] rfl
  have hDc := hD.sub (ws' := [(h0, .inr (12, [d0, d1, d2, d3, d4, d5, d6, d7, d8, d9, d10, d11, d12, d13, d14, d15, d16, d17, d18, d19, d20, d21, .int 0, d23, .ref h1, d25, d26, d27, d28, d29, d30, d31, d32, d33, d34, d35, d36, d37, d38, d39, d40, d41, d42, d43, d44, d45, d46, d47, d48, d49, d50, d51, d52, d53, d54, d55])), (h1, .inl (cI, 5, .inl (fun _ => 0)))]) [0, 1] (by decide) rfl
  have hFc := va_free (wc := [(h0, .inr (12, [d0, d1, d2, d3, d4, d5, d6, d7, d8, d9, d10, d11, d12, d13, d14, d15, d16, d17, d18, d19, d20, d21, .int 0, d23, .ref h1, d25, d26, d27, d28, d29, d30, d31, d32, d33, d34, d35, d36, d37, d38, d39, d40, d41, d42, d43, d44, d45, d46, d47, d48, d49, d50, d51, d52, d53, d54, d55])), (h1, .inl (cI, 5, .inl (fun _ => 0)))]) hD hS hA [0, 1] rfl
  refine va_calli (va_runV (As := [.int 0]) (rest := []) ⟨hx, hb, hml, hown, hts⟩ (c_X12_isRefused l dC dI cI cZ H.size h0 h1 d0 d1 d2 d3 d4 d5 d6 d7 d8 d9 d10 d11 d12 d13 d14 d15 d16 d17 d18 d19 d20 d21 (.int 0) d23 d25 d26 d27 d28 d29 d30 d31 d32 d33 d34 d35 d36 d37 d38 d39 d40 d41 d42 d43 d44 d45 d46 d47 d48 d49 d50 d51 d52 d53 d54 d55) (cwV 1 hts gX12_bed_X12_isRefused rfl rfl rfl (by decide +kernel) ⟨Nat.le_of_ble_eq_true rfl, Nat.le_of_ble_eq_true rfl⟩) (zPreV hPc hK hDc hG (ci := 12) (q0 := 0) rfl rfl) rfl rfl hl.1 rfl (lv_room (Nat.le_of_ble_eq_true rfl)) dX12_bed_42 ⟨Nat.le_of_ble_eq_true rfl, Nat.le_of_ble_eq_true rfl⟩) hS (fun q _ h => hFc q h) hFc (fun r2 u9 t9 H1 locs ht9 hvm hwr2 hB9 hz1 hk1 hS => ?_)
  have hP1 : va_P (dC, dI) vwCl [] H1 := zNoP
  have hD1 : va_D (va_A [(h0, .inr (12, [d0, d1, d2, d3, d4, d5, d6, d7, d8, d9, d10, d11, d12, d13, d14, d15, d16, d17, d18, d19, d20, d21, .int 0, d23, .ref h1, d25, d26, d27, d28, d29, d30, d31, d32, d33, d34, d35, d36, d37, d38, d39, d40, d41, d42, d43, d44, d45, d46, d47, d48, d49, d50, d51, d52, d53, d54, d55])), (h1, .inl (cI, 5, .inl (fun _ => 0)))] H.size) [] := zNoD
  obtain ⟨hP, hD⟩ := va_join (wr := []) (w1 := []) hP hD [0, 1] [] rfl rfl (by decide) (by decide) hk1 hFc hP1 hD1
  try clear hz1 hk1 hvm ht9 u9 hPc hDc hFc hP1 hD1 hB9
  generalize H1 = H at hP hS ⊢
  have hP : va_P (dC, dI) vwCl [] H := hP
  have hD : va_D A [] := hD
  obtain rfl : r2 = 1 := hwr2.trans rfl
  refine lv_if_eq (tgt := 50) hx hb dX12_bed_45 (by decide) (fun c9 => absurd c9 (by decide)) (fun _ => ?_)
  refine lv_iconst (v := (-1)) hx hb dX12_bed_48 (by decide) ?_
  exact W.iret (v := (-1)) hx hb hr (fun t ht hW => ⟨⟨(-1), (), rfl, (by unfold s_X12_bed; first | rfl | simp), trivial⟩, hS.F ht⟩) hS.2.2 dX12_bed_49

def s_X12_train : Int32 := (-1)
set_option maxHeartbeats 4000000 in
set_option maxRecDepth 100000 in
theorem c_X12_train (l : Launch) (dC : Nat → ClassId) (dI : Nat → Nat → Nat) (cI cZ : ClassId) (sz : Nat) (h0 : Nat) (h1 : Nat) (d0 : Value) (d1 : Value) (d2 : Value) (d3 : Value) (d4 : Value) (d5 : Value) (d6 : Value) (d7 : Value) (d8 : Value) (d9 : Value) (d10 : Value) (d11 : Value) (d12 : Value) (d13 : Value) (d14 : Value) (d15 : Value) (d16 : Value) (d17 : Value) (d18 : Value) (d19 : Value) (d20 : Value) (d21 : Value) (d23 : Value) (d25 : Value) (d26 : Value) (d27 : Value) (d28 : Value) (d29 : Value) (d30 : Value) (d31 : Value) (d32 : Value) (d33 : Value) (d34 : Value) (d35 : Value) (d36 : Value) (d37 : Value) (d38 : Value) (d39 : Value) (d40 : Value) (d41 : Value) (d42 : Value) (d43 : Value) (d44 : Value) (d45 : Value) (d46 : Value) (d47 : Value) (d48 : Value) (d49 : Value) (d50 : Value) (d51 : Value) (d52 : Value) (d53 : Value) (d54 : Value) (d55 : Value) (p0 : Int32) : Met l yX12_train wsX12_train ({ frames := 2, cells := 0, slots := 0, locals := 43 }) (va_Pc [.ref h0, .int p0] (zPre dC dI cI cZ sz [(h0, .inr (12, [d0, d1, d2, d3, d4, d5, d6, d7, d8, d9, d10, d11, d12, d13, d14, d15, d16, d17, d18, d19, d20, d21, .int 0, d23, .ref h1, d25, d26, d27, d28, d29, d30, d31, d32, d33, d34, d35, d36, d37, d38, d39, d40, d41, d42, d43, d44, d45, d46, d47, d48, d49, d50, d51, d52, d53, d54, d55])), (h1, .inl (cI, 5, .inl (fun _ => 0)))])) (va_Qi (fun (r : Int32) (_ : Unit) => r = s_X12_train) (fun (_ : Unit) _ => True) (va_A [(h0, .inr (12, [d0, d1, d2, d3, d4, d5, d6, d7, d8, d9, d10, d11, d12, d13, d14, d15, d16, d17, d18, d19, d20, d21, .int 0, d23, .ref h1, d25, d26, d27, d28, d29, d30, d31, d32, d33, d34, d35, d36, d37, d38, d39, d40, d41, d42, d43, d44, d45, d46, d47, d48, d49, d50, d51, d52, d53, d54, d55])), (h1, .inl (cI, 5, .inl (fun _ => 0)))] sz)) 0 0 (va_A [(h0, .inr (12, [d0, d1, d2, d3, d4, d5, d6, d7, d8, d9, d10, d11, d12, d13, d14, d15, d16, d17, d18, d19, d20, d21, .int 0, d23, .ref h1, d25, d26, d27, d28, d29, d30, d31, d32, d33, d34, d35, d36, d37, d38, d39, d40, d41, d42, d43, d44, d45, d46, d47, d48, d49, d50, d51, d52, d53, d54, d55])), (h1, .inl (cI, 5, .inl (fun _ => 0)))] sz) := by
  refine Met.ofW (cc := cX12_train) (maxL := 2) (ret := (some .int)) (by decide) rfl ?_
  intro p e s m args below meth c s₁ B hml hv
  obtain ⟨rfl, hsz, hP, hK, hD0, hG⟩ := hv
  have hx := B.exec
  have hb := B.bytes
  have hr := B.returns
  have hts := atoms_spec (ws := wsX12_train) B.pre
  have hown : s.vm.findClass RX12 = some m.cls := findClass_of_methodNamed B.named
  have hlocks := B.notSynchronized
  subst hsz
  have hD := hD0.self (sz := s.heap.size)
  generalize hAe : va_A [(h0, .inr (12, [d0, d1, d2, d3, d4, d5, d6, d7, d8, d9, d10, d11, d12, d13, d14, d15, d16, d17, d18, d19, d20, d21, .int 0, d23, .ref h1, d25, d26, d27, d28, d29, d30, d31, d32, d33, d34, d35, d36, d37, d38, d39, d40, d41, d42, d43, d44, d45, d46, d47, d48, d49, d50, d51, d52, d53, d54, d55])), (h1, .inl (cI, 5, .inl (fun _ => 0)))] s.heap.size = A at hD ⊢
  have hA : ∀ q : Nat, s.heap.size ≤ q → A q := fun q h => by rw [← hAe]; exact Or.inr h
  have hS : va_S A s.heap s.heap [] := va_S.rf
  have hP : va_P (dC, dI) vwCl [(h0, .inr (12, [d0, d1, d2, d3, d4, d5, d6, d7, d8, d9, d10, d11, d12, d13, d14, d15, d16, d17, d18, d19, d20, d21, .int 0, d23, .ref h1, d25, d26, d27, d28, d29, d30, d31, d32, d33, d34, d35, d36, d37, d38, d39, d40, d41, d42, d43, d44, d45, d46, d47, d48, d49, d50, d51, d52, d53, d54, d55])), (h1, .inl (cI, 5, .inl (fun _ => 0)))] s.heap := hP
  have hl := lv_entry ([.ref h0, .int p0]) (n := 2) (Nat.le_of_ble_eq_true rfl)
  rw [lg_entry_eq]
  generalize (lg_sl ([.ref h0, .int p0]) ++ List.replicate (2 - (lg_sl ([.ref h0, .int p0])).length) Slot.unset).toArray = ls at hl ⊢
  have hl : lv_has ls 2 [(0, .ref h0), (1, .int p0)] := hl
  refine lv_aload_n hx hb dX12_train_0 rfl (lv_at hl 0 rfl) ?_
  refine lv_aload_n hx hb dX12_train_1 rfl (lv_at hl 0 rfl) ?_
  refine lv_iload_n hx hb dX12_train_2 rfl (lv_at hl 1 rfl) ?_
  have hPc := hP.sub (ws' := [(h0, .inr (12, [d0, d1, d2, d3, d4, d5, d6, d7, d8, d9, d10, d11, d12, d13, d14, d15, d16, d17, d18, d19, d20, d21, .int 0, d23, .ref h1, d25, d26, d27, d28, d29, d30, d31, d32, d33, d34, d35, d36, d37, d38, d39, d40, d41, d42, d43, d44, d45, d46, d47, d48, d49, d50, d51, d52, d53, d54, d55]))]) [0] rfl
  have hDc := hD.sub (ws' := [(h0, .inr (12, [d0, d1, d2, d3, d4, d5, d6, d7, d8, d9, d10, d11, d12, d13, d14, d15, d16, d17, d18, d19, d20, d21, .int 0, d23, .ref h1, d25, d26, d27, d28, d29, d30, d31, d32, d33, d34, d35, d36, d37, d38, d39, d40, d41, d42, d43, d44, d45, d46, d47, d48, d49, d50, d51, d52, d53, d54, d55]))]) [0] (by decide) rfl
  refine va_calli (va_runV (As := [.int p0]) (rest := [.ref h0]) ⟨hx, hb, hml, hown, hts⟩ (c_X12_isMan l dC dI cI cZ s.heap.size h0 d0 d1 d2 d3 d4 d5 d6 d7 d8 d9 d10 d11 d12 d13 d14 d15 d16 d17 d18 d19 d20 d21 d23 (.ref h1) d25 d26 d27 d28 d29 d30 d31 d32 d33 d34 d35 d36 d37 d38 d39 d40 d41 d42 d43 d44 d45 d46 d47 d48 d49 d50 d51 d52 d53 d54 d55 p0) (cwV 1 hts gX12_train_X12_isMan rfl rfl rfl (by decide +kernel) ⟨Nat.le_of_ble_eq_true rfl, Nat.le_of_ble_eq_true rfl⟩) (zPreV hPc hK hDc hG (ci := 12) (q0 := 0) rfl rfl) rfl rfl hl.1 rfl (lv_room (Nat.le_of_ble_eq_true rfl)) dX12_train_3 ⟨Nat.le_of_ble_eq_true rfl, Nat.le_of_ble_eq_true rfl⟩) hS (fun _ _ h => h.elim) (fun _ h => h.elim) (fun r1 u9 t9 H1 locs ht9 hvm hwr1 hB9 hz1 hk1 hS => ?_)
  replace hP := zKept hP hk1
  try clear hB9 hz1 hk1 hvm ht9 u9 hPc hDc
  generalize H1 = H at hP hS ⊢
  obtain rfl : r1 = 0 := hwr1.trans rfl
  refine lv_if_ne (tgt := 13) hx hb dX12_train_6 (by decide) (fun c9 => absurd (by decide) c9) (fun _ => ?_)
  refine lv_iconst (v := 0) hx hb dX12_train_9 (by decide) ?_
  refine lv_goto (tgt := 47) hx hb dX12_train_10 (by decide) ?_
  have hPc := hP.sub (ws' := [(h0, .inr (12, [d0, d1, d2, d3, d4, d5, d6, d7, d8, d9, d10, d11, d12, d13, d14, d15, d16, d17, d18, d19, d20, d21, .int 0, d23, .ref h1, d25, d26, d27, d28, d29, d30, d31, d32, d33, d34, d35, d36, d37, d38, d39, d40, d41, d42, d43, d44, d45, d46, d47, d48, d49, d50, d51, d52, d53, d54, d55])), (h1, .inl (cI, 5, .inl (fun _ => 0)))]) [0, 1] rfl
  have hDc := hD.sub (ws' := [(h0, .inr (12, [d0, d1, d2, d3, d4, d5, d6, d7, d8, d9, d10, d11, d12, d13, d14, d15, d16, d17, d18, d19, d20, d21, .int 0, d23, .ref h1, d25, d26, d27, d28, d29, d30, d31, d32, d33, d34, d35, d36, d37, d38, d39, d40, d41, d42, d43, d44, d45, d46, d47, d48, d49, d50, d51, d52, d53, d54, d55])), (h1, .inl (cI, 5, .inl (fun _ => 0)))]) [0, 1] (by decide) rfl
  have hFc := va_free (wc := [(h0, .inr (12, [d0, d1, d2, d3, d4, d5, d6, d7, d8, d9, d10, d11, d12, d13, d14, d15, d16, d17, d18, d19, d20, d21, .int 0, d23, .ref h1, d25, d26, d27, d28, d29, d30, d31, d32, d33, d34, d35, d36, d37, d38, d39, d40, d41, d42, d43, d44, d45, d46, d47, d48, d49, d50, d51, d52, d53, d54, d55])), (h1, .inl (cI, 5, .inl (fun _ => 0)))]) hD hS hA [0, 1] rfl
  refine va_calli (va_runV (As := [.int 0]) (rest := []) ⟨hx, hb, hml, hown, hts⟩ (c_X12_isRefused l dC dI cI cZ H.size h0 h1 d0 d1 d2 d3 d4 d5 d6 d7 d8 d9 d10 d11 d12 d13 d14 d15 d16 d17 d18 d19 d20 d21 (.int 0) d23 d25 d26 d27 d28 d29 d30 d31 d32 d33 d34 d35 d36 d37 d38 d39 d40 d41 d42 d43 d44 d45 d46 d47 d48 d49 d50 d51 d52 d53 d54 d55) (cwV 1 hts gX12_train_X12_isRefused rfl rfl rfl (by decide +kernel) ⟨Nat.le_of_ble_eq_true rfl, Nat.le_of_ble_eq_true rfl⟩) (zPreV hPc hK hDc hG (ci := 12) (q0 := 0) rfl rfl) rfl rfl hl.1 rfl (lv_room (Nat.le_of_ble_eq_true rfl)) dX12_train_47 ⟨Nat.le_of_ble_eq_true rfl, Nat.le_of_ble_eq_true rfl⟩) hS (fun q _ h => hFc q h) hFc (fun r2 u9 t9 H1 locs ht9 hvm hwr2 hB9 hz1 hk1 hS => ?_)
  have hP1 : va_P (dC, dI) vwCl [] H1 := zNoP
  have hD1 : va_D (va_A [(h0, .inr (12, [d0, d1, d2, d3, d4, d5, d6, d7, d8, d9, d10, d11, d12, d13, d14, d15, d16, d17, d18, d19, d20, d21, .int 0, d23, .ref h1, d25, d26, d27, d28, d29, d30, d31, d32, d33, d34, d35, d36, d37, d38, d39, d40, d41, d42, d43, d44, d45, d46, d47, d48, d49, d50, d51, d52, d53, d54, d55])), (h1, .inl (cI, 5, .inl (fun _ => 0)))] H.size) [] := zNoD
  obtain ⟨hP, hD⟩ := va_join (wr := []) (w1 := []) hP hD [0, 1] [] rfl rfl (by decide) (by decide) hk1 hFc hP1 hD1
  try clear hz1 hk1 hvm ht9 u9 hPc hDc hFc hP1 hD1 hB9
  generalize H1 = H at hP hS ⊢
  have hP : va_P (dC, dI) vwCl [] H := hP
  have hD : va_D A [] := hD
  obtain rfl : r2 = 1 := hwr2.trans rfl
  refine lv_if_eq (tgt := 55) hx hb dX12_train_50 (by decide) (fun c9 => absurd c9 (by decide)) (fun _ => ?_)
  refine lv_iconst (v := (-1)) hx hb dX12_train_53 (by decide) ?_
  exact W.iret (v := (-1)) hx hb hr (fun t ht hW => ⟨⟨(-1), (), rfl, (by unfold s_X12_train; first | rfl | simp), trivial⟩, hS.F ht⟩) hS.2.2 dX12_train_54

def s_X12_dull : Int32 := (-1)
set_option maxHeartbeats 4000000 in
set_option maxRecDepth 100000 in
theorem c_X12_dull (l : Launch) (dC : Nat → ClassId) (dI : Nat → Nat → Nat) (cI cZ : ClassId) (sz : Nat) (h0 : Nat) (h1 : Nat) (d0 : Value) (d1 : Value) (d2 : Value) (d3 : Value) (d4 : Value) (d5 : Value) (d6 : Value) (d7 : Value) (d8 : Value) (d9 : Value) (d10 : Value) (d11 : Value) (d12 : Value) (d13 : Value) (d14 : Value) (d15 : Value) (d16 : Value) (d17 : Value) (d18 : Value) (d19 : Value) (d20 : Value) (d21 : Value) (d23 : Value) (d25 : Value) (d26 : Value) (d27 : Value) (d28 : Value) (d29 : Value) (d30 : Value) (d31 : Value) (d32 : Value) (d33 : Value) (d34 : Value) (d35 : Value) (d36 : Value) (d37 : Value) (d38 : Value) (d39 : Value) (d40 : Value) (d41 : Value) (d42 : Value) (d43 : Value) (d44 : Value) (d45 : Value) (d46 : Value) (d47 : Value) (d48 : Value) (d49 : Value) (d50 : Value) (d51 : Value) (d52 : Value) (d53 : Value) (d54 : Value) (d55 : Value) (p0 : Int32) : Met l yX12_dull wsX12_dull ({ frames := 2, cells := 0, slots := 0, locals := 43 }) (va_Pc [.ref h0, .int p0] (zPre dC dI cI cZ sz [(h0, .inr (12, [d0, d1, d2, d3, d4, d5, d6, d7, d8, d9, d10, d11, d12, d13, d14, d15, d16, d17, d18, d19, d20, d21, .int 0, d23, .ref h1, d25, d26, d27, d28, d29, d30, d31, d32, d33, d34, d35, d36, d37, d38, d39, d40, d41, d42, d43, d44, d45, d46, d47, d48, d49, d50, d51, d52, d53, d54, d55])), (h1, .inl (cI, 5, .inl (fun _ => 0)))])) (va_Qi (fun (r : Int32) (_ : Unit) => r = s_X12_dull) (fun (_ : Unit) _ => True) (va_A [(h0, .inr (12, [d0, d1, d2, d3, d4, d5, d6, d7, d8, d9, d10, d11, d12, d13, d14, d15, d16, d17, d18, d19, d20, d21, .int 0, d23, .ref h1, d25, d26, d27, d28, d29, d30, d31, d32, d33, d34, d35, d36, d37, d38, d39, d40, d41, d42, d43, d44, d45, d46, d47, d48, d49, d50, d51, d52, d53, d54, d55])), (h1, .inl (cI, 5, .inl (fun _ => 0)))] sz)) 0 0 (va_A [(h0, .inr (12, [d0, d1, d2, d3, d4, d5, d6, d7, d8, d9, d10, d11, d12, d13, d14, d15, d16, d17, d18, d19, d20, d21, .int 0, d23, .ref h1, d25, d26, d27, d28, d29, d30, d31, d32, d33, d34, d35, d36, d37, d38, d39, d40, d41, d42, d43, d44, d45, d46, d47, d48, d49, d50, d51, d52, d53, d54, d55])), (h1, .inl (cI, 5, .inl (fun _ => 0)))] sz) := by
  refine Met.ofW (cc := cX12_dull) (maxL := 2) (ret := (some .int)) (by decide) rfl ?_
  intro p e s m args below meth c s₁ B hml hv
  obtain ⟨rfl, hsz, hP, hK, hD0, hG⟩ := hv
  have hx := B.exec
  have hb := B.bytes
  have hr := B.returns
  have hts := atoms_spec (ws := wsX12_dull) B.pre
  have hown : s.vm.findClass RX12 = some m.cls := findClass_of_methodNamed B.named
  have hlocks := B.notSynchronized
  subst hsz
  have hD := hD0.self (sz := s.heap.size)
  generalize hAe : va_A [(h0, .inr (12, [d0, d1, d2, d3, d4, d5, d6, d7, d8, d9, d10, d11, d12, d13, d14, d15, d16, d17, d18, d19, d20, d21, .int 0, d23, .ref h1, d25, d26, d27, d28, d29, d30, d31, d32, d33, d34, d35, d36, d37, d38, d39, d40, d41, d42, d43, d44, d45, d46, d47, d48, d49, d50, d51, d52, d53, d54, d55])), (h1, .inl (cI, 5, .inl (fun _ => 0)))] s.heap.size = A at hD ⊢
  have hA : ∀ q : Nat, s.heap.size ≤ q → A q := fun q h => by rw [← hAe]; exact Or.inr h
  have hS : va_S A s.heap s.heap [] := va_S.rf
  have hP : va_P (dC, dI) vwCl [(h0, .inr (12, [d0, d1, d2, d3, d4, d5, d6, d7, d8, d9, d10, d11, d12, d13, d14, d15, d16, d17, d18, d19, d20, d21, .int 0, d23, .ref h1, d25, d26, d27, d28, d29, d30, d31, d32, d33, d34, d35, d36, d37, d38, d39, d40, d41, d42, d43, d44, d45, d46, d47, d48, d49, d50, d51, d52, d53, d54, d55])), (h1, .inl (cI, 5, .inl (fun _ => 0)))] s.heap := hP
  have hl := lv_entry ([.ref h0, .int p0]) (n := 2) (Nat.le_of_ble_eq_true rfl)
  rw [lg_entry_eq]
  generalize (lg_sl ([.ref h0, .int p0]) ++ List.replicate (2 - (lg_sl ([.ref h0, .int p0])).length) Slot.unset).toArray = ls at hl ⊢
  have hl : lv_has ls 2 [(0, .ref h0), (1, .int p0)] := hl
  refine lv_aload_n hx hb dX12_dull_0 rfl (lv_at hl 0 rfl) ?_
  refine lv_aload_n hx hb dX12_dull_1 rfl (lv_at hl 0 rfl) ?_
  refine lv_iload_n hx hb dX12_dull_2 rfl (lv_at hl 1 rfl) ?_
  have hPc := hP.sub (ws' := [(h0, .inr (12, [d0, d1, d2, d3, d4, d5, d6, d7, d8, d9, d10, d11, d12, d13, d14, d15, d16, d17, d18, d19, d20, d21, .int 0, d23, .ref h1, d25, d26, d27, d28, d29, d30, d31, d32, d33, d34, d35, d36, d37, d38, d39, d40, d41, d42, d43, d44, d45, d46, d47, d48, d49, d50, d51, d52, d53, d54, d55]))]) [0] rfl
  have hDc := hD.sub (ws' := [(h0, .inr (12, [d0, d1, d2, d3, d4, d5, d6, d7, d8, d9, d10, d11, d12, d13, d14, d15, d16, d17, d18, d19, d20, d21, .int 0, d23, .ref h1, d25, d26, d27, d28, d29, d30, d31, d32, d33, d34, d35, d36, d37, d38, d39, d40, d41, d42, d43, d44, d45, d46, d47, d48, d49, d50, d51, d52, d53, d54, d55]))]) [0] (by decide) rfl
  refine va_calli (va_runV (As := [.int p0]) (rest := [.ref h0]) ⟨hx, hb, hml, hown, hts⟩ (c_X12_isMan l dC dI cI cZ s.heap.size h0 d0 d1 d2 d3 d4 d5 d6 d7 d8 d9 d10 d11 d12 d13 d14 d15 d16 d17 d18 d19 d20 d21 d23 (.ref h1) d25 d26 d27 d28 d29 d30 d31 d32 d33 d34 d35 d36 d37 d38 d39 d40 d41 d42 d43 d44 d45 d46 d47 d48 d49 d50 d51 d52 d53 d54 d55 p0) (cwV 1 hts gX12_dull_X12_isMan rfl rfl rfl (by decide +kernel) ⟨Nat.le_of_ble_eq_true rfl, Nat.le_of_ble_eq_true rfl⟩) (zPreV hPc hK hDc hG (ci := 12) (q0 := 0) rfl rfl) rfl rfl hl.1 rfl (lv_room (Nat.le_of_ble_eq_true rfl)) dX12_dull_3 ⟨Nat.le_of_ble_eq_true rfl, Nat.le_of_ble_eq_true rfl⟩) hS (fun _ _ h => h.elim) (fun _ h => h.elim) (fun r1 u9 t9 H1 locs ht9 hvm hwr1 hB9 hz1 hk1 hS => ?_)
  replace hP := zKept hP hk1
  try clear hB9 hz1 hk1 hvm ht9 u9 hPc hDc
  generalize H1 = H at hP hS ⊢
  obtain rfl : r1 = 0 := hwr1.trans rfl
  refine lv_if_ne (tgt := 13) hx hb dX12_dull_6 (by decide) (fun c9 => absurd (by decide) c9) (fun _ => ?_)
  refine lv_iconst (v := 0) hx hb dX12_dull_9 (by decide) ?_
  refine lv_goto (tgt := 45) hx hb dX12_dull_10 (by decide) ?_
  have hPc := hP.sub (ws' := [(h0, .inr (12, [d0, d1, d2, d3, d4, d5, d6, d7, d8, d9, d10, d11, d12, d13, d14, d15, d16, d17, d18, d19, d20, d21, .int 0, d23, .ref h1, d25, d26, d27, d28, d29, d30, d31, d32, d33, d34, d35, d36, d37, d38, d39, d40, d41, d42, d43, d44, d45, d46, d47, d48, d49, d50, d51, d52, d53, d54, d55])), (h1, .inl (cI, 5, .inl (fun _ => 0)))]) [0, 1] rfl
  have hDc := hD.sub (ws' := [(h0, .inr (12, [d0, d1, d2, d3, d4, d5, d6, d7, d8, d9, d10, d11, d12, d13, d14, d15, d16, d17, d18, d19, d20, d21, .int 0, d23, .ref h1, d25, d26, d27, d28, d29, d30, d31, d32, d33, d34, d35, d36, d37, d38, d39, d40, d41, d42, d43, d44, d45, d46, d47, d48, d49, d50, d51, d52, d53, d54, d55])), (h1, .inl (cI, 5, .inl (fun _ => 0)))]) [0, 1] (by decide) rfl
  have hFc := va_free (wc := [(h0, .inr (12, [d0, d1, d2, d3, d4, d5, d6, d7, d8, d9, d10, d11, d12, d13, d14, d15, d16, d17, d18, d19, d20, d21, .int 0, d23, .ref h1, d25, d26, d27, d28, d29, d30, d31, d32, d33, d34, d35, d36, d37, d38, d39, d40, d41, d42, d43, d44, d45, d46, d47, d48, d49, d50, d51, d52, d53, d54, d55])), (h1, .inl (cI, 5, .inl (fun _ => 0)))]) hD hS hA [0, 1] rfl
  refine va_calli (va_runV (As := [.int 0]) (rest := []) ⟨hx, hb, hml, hown, hts⟩ (c_X12_isRefused l dC dI cI cZ H.size h0 h1 d0 d1 d2 d3 d4 d5 d6 d7 d8 d9 d10 d11 d12 d13 d14 d15 d16 d17 d18 d19 d20 d21 (.int 0) d23 d25 d26 d27 d28 d29 d30 d31 d32 d33 d34 d35 d36 d37 d38 d39 d40 d41 d42 d43 d44 d45 d46 d47 d48 d49 d50 d51 d52 d53 d54 d55) (cwV 1 hts gX12_dull_X12_isRefused rfl rfl rfl (by decide +kernel) ⟨Nat.le_of_ble_eq_true rfl, Nat.le_of_ble_eq_true rfl⟩) (zPreV hPc hK hDc hG (ci := 12) (q0 := 0) rfl rfl) rfl rfl hl.1 rfl (lv_room (Nat.le_of_ble_eq_true rfl)) dX12_dull_45 ⟨Nat.le_of_ble_eq_true rfl, Nat.le_of_ble_eq_true rfl⟩) hS (fun q _ h => hFc q h) hFc (fun r2 u9 t9 H1 locs ht9 hvm hwr2 hB9 hz1 hk1 hS => ?_)
  have hP1 : va_P (dC, dI) vwCl [] H1 := zNoP
  have hD1 : va_D (va_A [(h0, .inr (12, [d0, d1, d2, d3, d4, d5, d6, d7, d8, d9, d10, d11, d12, d13, d14, d15, d16, d17, d18, d19, d20, d21, .int 0, d23, .ref h1, d25, d26, d27, d28, d29, d30, d31, d32, d33, d34, d35, d36, d37, d38, d39, d40, d41, d42, d43, d44, d45, d46, d47, d48, d49, d50, d51, d52, d53, d54, d55])), (h1, .inl (cI, 5, .inl (fun _ => 0)))] H.size) [] := zNoD
  obtain ⟨hP, hD⟩ := va_join (wr := []) (w1 := []) hP hD [0, 1] [] rfl rfl (by decide) (by decide) hk1 hFc hP1 hD1
  try clear hz1 hk1 hvm ht9 u9 hPc hDc hFc hP1 hD1 hB9
  generalize H1 = H at hP hS ⊢
  have hP : va_P (dC, dI) vwCl [] H := hP
  have hD : va_D A [] := hD
  obtain rfl : r2 = 1 := hwr2.trans rfl
  refine lv_if_eq (tgt := 53) hx hb dX12_dull_48 (by decide) (fun c9 => absurd c9 (by decide)) (fun _ => ?_)
  refine lv_iconst (v := (-1)) hx hb dX12_dull_51 (by decide) ?_
  exact W.iret (v := (-1)) hx hb hr (fun t ht hW => ⟨⟨(-1), (), rfl, (by unfold s_X12_dull; first | rfl | simp), trivial⟩, hS.F ht⟩) hS.2.2 dX12_dull_52

def s_X12_swap : Int32 := (-1)
set_option maxHeartbeats 4000000 in
set_option maxRecDepth 100000 in
theorem c_X12_swap (l : Launch) (dC : Nat → ClassId) (dI : Nat → Nat → Nat) (cI cZ : ClassId) (sz : Nat) (h0 : Nat) (h1 : Nat) (d0 : Value) (d1 : Value) (d2 : Value) (d3 : Value) (d4 : Value) (d5 : Value) (d6 : Value) (d7 : Value) (d8 : Value) (d9 : Value) (d10 : Value) (d11 : Value) (d12 : Value) (d13 : Value) (d14 : Value) (d15 : Value) (d16 : Value) (d17 : Value) (d18 : Value) (d19 : Value) (d20 : Value) (d21 : Value) (d23 : Value) (d25 : Value) (d26 : Value) (d27 : Value) (d28 : Value) (d29 : Value) (d30 : Value) (d31 : Value) (d32 : Value) (d33 : Value) (d34 : Value) (d35 : Value) (d36 : Value) (d37 : Value) (d38 : Value) (d39 : Value) (d40 : Value) (d41 : Value) (d42 : Value) (d43 : Value) (d44 : Value) (d45 : Value) (d46 : Value) (d47 : Value) (d48 : Value) (d49 : Value) (d50 : Value) (d51 : Value) (d52 : Value) (d53 : Value) (d54 : Value) (d55 : Value) (p0 : Int32) (p1 : Int32) : Met l yX12_swap wsX12_swap ({ frames := 2, cells := 0, slots := 0, locals := 43 }) (va_Pc [.ref h0, .int p0, .int p1] (zPre dC dI cI cZ sz [(h0, .inr (12, [d0, d1, d2, d3, d4, d5, d6, d7, d8, d9, d10, d11, d12, d13, d14, d15, d16, d17, d18, d19, d20, d21, .int 0, d23, .ref h1, d25, d26, d27, d28, d29, d30, d31, d32, d33, d34, d35, d36, d37, d38, d39, d40, d41, d42, d43, d44, d45, d46, d47, d48, d49, d50, d51, d52, d53, d54, d55])), (h1, .inl (cI, 5, .inl (fun _ => 0)))])) (va_Qi (fun (r : Int32) (_ : Unit) => r = s_X12_swap) (fun (_ : Unit) _ => True) (va_A [(h0, .inr (12, [d0, d1, d2, d3, d4, d5, d6, d7, d8, d9, d10, d11, d12, d13, d14, d15, d16, d17, d18, d19, d20, d21, .int 0, d23, .ref h1, d25, d26, d27, d28, d29, d30, d31, d32, d33, d34, d35, d36, d37, d38, d39, d40, d41, d42, d43, d44, d45, d46, d47, d48, d49, d50, d51, d52, d53, d54, d55])), (h1, .inl (cI, 5, .inl (fun _ => 0)))] sz)) 0 0 (va_A [(h0, .inr (12, [d0, d1, d2, d3, d4, d5, d6, d7, d8, d9, d10, d11, d12, d13, d14, d15, d16, d17, d18, d19, d20, d21, .int 0, d23, .ref h1, d25, d26, d27, d28, d29, d30, d31, d32, d33, d34, d35, d36, d37, d38, d39, d40, d41, d42, d43, d44, d45, d46, d47, d48, d49, d50, d51, d52, d53, d54, d55])), (h1, .inl (cI, 5, .inl (fun _ => 0)))] sz) := by
  refine Met.ofW (cc := cX12_swap) (maxL := 3) (ret := (some .int)) (by decide) rfl ?_
  intro p e s m args below meth c s₁ B hml hv
  obtain ⟨rfl, hsz, hP, hK, hD0, hG⟩ := hv
  have hx := B.exec
  have hb := B.bytes
  have hr := B.returns
  have hts := atoms_spec (ws := wsX12_swap) B.pre
  have hown : s.vm.findClass RX12 = some m.cls := findClass_of_methodNamed B.named
  have hlocks := B.notSynchronized
  subst hsz
  have hD := hD0.self (sz := s.heap.size)
  generalize hAe : va_A [(h0, .inr (12, [d0, d1, d2, d3, d4, d5, d6, d7, d8, d9, d10, d11, d12, d13, d14, d15, d16, d17, d18, d19, d20, d21, .int 0, d23, .ref h1, d25, d26, d27, d28, d29, d30, d31, d32, d33, d34, d35, d36, d37, d38, d39, d40, d41, d42, d43, d44, d45, d46, d47, d48, d49, d50, d51, d52, d53, d54, d55])), (h1, .inl (cI, 5, .inl (fun _ => 0)))] s.heap.size = A at hD ⊢
  have hA : ∀ q : Nat, s.heap.size ≤ q → A q := fun q h => by rw [← hAe]; exact Or.inr h
  have hS : va_S A s.heap s.heap [] := va_S.rf
  have hP : va_P (dC, dI) vwCl [(h0, .inr (12, [d0, d1, d2, d3, d4, d5, d6, d7, d8, d9, d10, d11, d12, d13, d14, d15, d16, d17, d18, d19, d20, d21, .int 0, d23, .ref h1, d25, d26, d27, d28, d29, d30, d31, d32, d33, d34, d35, d36, d37, d38, d39, d40, d41, d42, d43, d44, d45, d46, d47, d48, d49, d50, d51, d52, d53, d54, d55])), (h1, .inl (cI, 5, .inl (fun _ => 0)))] s.heap := hP
  have hl := lv_entry ([.ref h0, .int p0, .int p1]) (n := 3) (Nat.le_of_ble_eq_true rfl)
  rw [lg_entry_eq]
  generalize (lg_sl ([.ref h0, .int p0, .int p1]) ++ List.replicate (3 - (lg_sl ([.ref h0, .int p0, .int p1])).length) Slot.unset).toArray = ls at hl ⊢
  have hl : lv_has ls 3 [(0, .ref h0), (1, .int p0), (2, .int p1)] := hl
  refine lv_aload_n hx hb dX12_swap_0 rfl (lv_at hl 0 rfl) ?_
  refine lv_aload_n hx hb dX12_swap_1 rfl (lv_at hl 0 rfl) ?_
  refine lv_iload_n hx hb dX12_swap_2 rfl (lv_at hl 1 rfl) ?_
  have hPc := hP.sub (ws' := [(h0, .inr (12, [d0, d1, d2, d3, d4, d5, d6, d7, d8, d9, d10, d11, d12, d13, d14, d15, d16, d17, d18, d19, d20, d21, .int 0, d23, .ref h1, d25, d26, d27, d28, d29, d30, d31, d32, d33, d34, d35, d36, d37, d38, d39, d40, d41, d42, d43, d44, d45, d46, d47, d48, d49, d50, d51, d52, d53, d54, d55]))]) [0] rfl
  have hDc := hD.sub (ws' := [(h0, .inr (12, [d0, d1, d2, d3, d4, d5, d6, d7, d8, d9, d10, d11, d12, d13, d14, d15, d16, d17, d18, d19, d20, d21, .int 0, d23, .ref h1, d25, d26, d27, d28, d29, d30, d31, d32, d33, d34, d35, d36, d37, d38, d39, d40, d41, d42, d43, d44, d45, d46, d47, d48, d49, d50, d51, d52, d53, d54, d55]))]) [0] (by decide) rfl
  refine va_calli (va_runV (As := [.int p0]) (rest := [.ref h0]) ⟨hx, hb, hml, hown, hts⟩ (c_X12_isMan l dC dI cI cZ s.heap.size h0 d0 d1 d2 d3 d4 d5 d6 d7 d8 d9 d10 d11 d12 d13 d14 d15 d16 d17 d18 d19 d20 d21 d23 (.ref h1) d25 d26 d27 d28 d29 d30 d31 d32 d33 d34 d35 d36 d37 d38 d39 d40 d41 d42 d43 d44 d45 d46 d47 d48 d49 d50 d51 d52 d53 d54 d55 p0) (cwV 1 hts gX12_swap_X12_isMan rfl rfl rfl (by decide +kernel) ⟨Nat.le_of_ble_eq_true rfl, Nat.le_of_ble_eq_true rfl⟩) (zPreV hPc hK hDc hG (ci := 12) (q0 := 0) rfl rfl) rfl rfl hl.1 rfl (lv_room (Nat.le_of_ble_eq_true rfl)) dX12_swap_3 ⟨Nat.le_of_ble_eq_true rfl, Nat.le_of_ble_eq_true rfl⟩) hS (fun _ _ h => h.elim) (fun _ h => h.elim) (fun r1 u9 t9 H1 locs ht9 hvm hwr1 hB9 hz1 hk1 hS => ?_)
  replace hP := zKept hP hk1
  try clear hB9 hz1 hk1 hvm ht9 u9 hPc hDc
  generalize H1 = H at hP hS ⊢
  obtain rfl : r1 = 0 := hwr1.trans rfl
  refine lv_if_eq (tgt := 17) hx hb dX12_swap_6 (by decide) (fun _ => ?_) (fun c9 => absurd (by decide) c9)
  refine lv_iconst (v := 0) hx hb dX12_swap_17 (by decide) ?_
  refine lv_goto (tgt := 46) hx hb dX12_swap_18 (by decide) ?_
  have hPc := hP.sub (ws' := [(h0, .inr (12, [d0, d1, d2, d3, d4, d5, d6, d7, d8, d9, d10, d11, d12, d13, d14, d15, d16, d17, d18, d19, d20, d21, .int 0, d23, .ref h1, d25, d26, d27, d28, d29, d30, d31, d32, d33, d34, d35, d36, d37, d38, d39, d40, d41, d42, d43, d44, d45, d46, d47, d48, d49, d50, d51, d52, d53, d54, d55])), (h1, .inl (cI, 5, .inl (fun _ => 0)))]) [0, 1] rfl
  have hDc := hD.sub (ws' := [(h0, .inr (12, [d0, d1, d2, d3, d4, d5, d6, d7, d8, d9, d10, d11, d12, d13, d14, d15, d16, d17, d18, d19, d20, d21, .int 0, d23, .ref h1, d25, d26, d27, d28, d29, d30, d31, d32, d33, d34, d35, d36, d37, d38, d39, d40, d41, d42, d43, d44, d45, d46, d47, d48, d49, d50, d51, d52, d53, d54, d55])), (h1, .inl (cI, 5, .inl (fun _ => 0)))]) [0, 1] (by decide) rfl
  have hFc := va_free (wc := [(h0, .inr (12, [d0, d1, d2, d3, d4, d5, d6, d7, d8, d9, d10, d11, d12, d13, d14, d15, d16, d17, d18, d19, d20, d21, .int 0, d23, .ref h1, d25, d26, d27, d28, d29, d30, d31, d32, d33, d34, d35, d36, d37, d38, d39, d40, d41, d42, d43, d44, d45, d46, d47, d48, d49, d50, d51, d52, d53, d54, d55])), (h1, .inl (cI, 5, .inl (fun _ => 0)))]) hD hS hA [0, 1] rfl
  refine va_calli (va_runV (As := [.int 0]) (rest := []) ⟨hx, hb, hml, hown, hts⟩ (c_X12_isRefused l dC dI cI cZ H.size h0 h1 d0 d1 d2 d3 d4 d5 d6 d7 d8 d9 d10 d11 d12 d13 d14 d15 d16 d17 d18 d19 d20 d21 (.int 0) d23 d25 d26 d27 d28 d29 d30 d31 d32 d33 d34 d35 d36 d37 d38 d39 d40 d41 d42 d43 d44 d45 d46 d47 d48 d49 d50 d51 d52 d53 d54 d55) (cwV 1 hts gX12_swap_X12_isRefused rfl rfl rfl (by decide +kernel) ⟨Nat.le_of_ble_eq_true rfl, Nat.le_of_ble_eq_true rfl⟩) (zPreV hPc hK hDc hG (ci := 12) (q0 := 0) rfl rfl) rfl rfl hl.1 rfl (lv_room (Nat.le_of_ble_eq_true rfl)) dX12_swap_46 ⟨Nat.le_of_ble_eq_true rfl, Nat.le_of_ble_eq_true rfl⟩) hS (fun q _ h => hFc q h) hFc (fun r2 u9 t9 H1 locs ht9 hvm hwr2 hB9 hz1 hk1 hS => ?_)
  have hP1 : va_P (dC, dI) vwCl [] H1 := zNoP
  have hD1 : va_D (va_A [(h0, .inr (12, [d0, d1, d2, d3, d4, d5, d6, d7, d8, d9, d10, d11, d12, d13, d14, d15, d16, d17, d18, d19, d20, d21, .int 0, d23, .ref h1, d25, d26, d27, d28, d29, d30, d31, d32, d33, d34, d35, d36, d37, d38, d39, d40, d41, d42, d43, d44, d45, d46, d47, d48, d49, d50, d51, d52, d53, d54, d55])), (h1, .inl (cI, 5, .inl (fun _ => 0)))] H.size) [] := zNoD
  obtain ⟨hP, hD⟩ := va_join (wr := []) (w1 := []) hP hD [0, 1] [] rfl rfl (by decide) (by decide) hk1 hFc hP1 hD1
  try clear hz1 hk1 hvm ht9 u9 hPc hDc hFc hP1 hD1 hB9
  generalize H1 = H at hP hS ⊢
  have hP : va_P (dC, dI) vwCl [] H := hP
  have hD : va_D A [] := hD
  obtain rfl : r2 = 1 := hwr2.trans rfl
  refine lv_if_eq (tgt := 54) hx hb dX12_swap_49 (by decide) (fun c9 => absurd c9 (by decide)) (fun _ => ?_)
  refine lv_iconst (v := (-1)) hx hb dX12_swap_52 (by decide) ?_
  exact W.iret (v := (-1)) hx hb hr (fun t ht hW => ⟨⟨(-1), (), rfl, (by unfold s_X12_swap; first | rfl | simp), trivial⟩, hS.F ht⟩) hS.2.2 dX12_swap_53

def s_X12_nights : Int32 := (-1)
set_option maxHeartbeats 4000000 in
set_option maxRecDepth 100000 in
theorem c_X12_nights (l : Launch) (dC : Nat → ClassId) (dI : Nat → Nat → Nat) (cI cZ : ClassId) (sz : Nat) (h0 : Nat) (h1 : Nat) (d0 : Value) (d1 : Value) (d2 : Value) (d3 : Value) (d4 : Value) (d5 : Value) (d6 : Value) (d7 : Value) (d8 : Value) (d9 : Value) (d10 : Value) (d11 : Value) (d12 : Value) (d13 : Value) (d14 : Value) (d15 : Value) (d16 : Value) (d17 : Value) (d18 : Value) (d19 : Value) (d20 : Value) (d21 : Value) (d23 : Value) (d25 : Value) (d26 : Value) (d27 : Value) (d28 : Value) (d29 : Value) (d30 : Value) (d31 : Value) (d32 : Value) (d33 : Value) (d34 : Value) (d35 : Value) (d36 : Value) (d37 : Value) (d38 : Value) (d39 : Value) (d40 : Value) (d41 : Value) (d42 : Value) (d43 : Value) (d44 : Value) (d45 : Value) (d46 : Value) (d47 : Value) (d48 : Value) (d49 : Value) (d50 : Value) (d51 : Value) (d52 : Value) (d53 : Value) (d54 : Value) (d55 : Value) (p0 : Int32) : Met l yX12_nights wsX12_nights ({ frames := 1, cells := 0, slots := 0, locals := 21 }) (va_Pc [.ref h0, .int p0] (zPre dC dI cI cZ sz [(h0, .inr (12, [d0, d1, d2, d3, d4, d5, d6, d7, d8, d9, d10, d11, d12, d13, d14, d15, d16, d17, d18, d19, d20, d21, .int 0, d23, .ref h1, d25, d26, d27, d28, d29, d30, d31, d32, d33, d34, d35, d36, d37, d38, d39, d40, d41, d42, d43, d44, d45, d46, d47, d48, d49, d50, d51, d52, d53, d54, d55])), (h1, .inl (cI, 5, .inl (fun _ => 0)))])) (va_Qi (fun (r : Int32) (_ : Unit) => r = s_X12_nights) (fun (_ : Unit) _ => True) (va_A [(h0, .inr (12, [d0, d1, d2, d3, d4, d5, d6, d7, d8, d9, d10, d11, d12, d13, d14, d15, d16, d17, d18, d19, d20, d21, .int 0, d23, .ref h1, d25, d26, d27, d28, d29, d30, d31, d32, d33, d34, d35, d36, d37, d38, d39, d40, d41, d42, d43, d44, d45, d46, d47, d48, d49, d50, d51, d52, d53, d54, d55])), (h1, .inl (cI, 5, .inl (fun _ => 0)))] sz)) 0 0 (va_A [(h0, .inr (12, [d0, d1, d2, d3, d4, d5, d6, d7, d8, d9, d10, d11, d12, d13, d14, d15, d16, d17, d18, d19, d20, d21, .int 0, d23, .ref h1, d25, d26, d27, d28, d29, d30, d31, d32, d33, d34, d35, d36, d37, d38, d39, d40, d41, d42, d43, d44, d45, d46, d47, d48, d49, d50, d51, d52, d53, d54, d55])), (h1, .inl (cI, 5, .inl (fun _ => 0)))] sz) := by
  refine Met.ofW (cc := cX12_nights) (maxL := 3) (ret := (some .int)) (by decide) rfl ?_
  intro p e s m args below meth c s₁ B hml hv
  obtain ⟨rfl, hsz, hP, hK, hD0, hG⟩ := hv
  have hx := B.exec
  have hb := B.bytes
  have hr := B.returns
  have hts := atoms_spec (ws := wsX12_nights) B.pre
  have hown : s.vm.findClass RX12 = some m.cls := findClass_of_methodNamed B.named
  have hlocks := B.notSynchronized
  have hinX12 : ∀ w ∈ wsX120, w ∈ wsX12_nights := by decide +kernel
  subst hsz
  have hD := hD0.self (sz := s.heap.size)
  generalize hAe : va_A [(h0, .inr (12, [d0, d1, d2, d3, d4, d5, d6, d7, d8, d9, d10, d11, d12, d13, d14, d15, d16, d17, d18, d19, d20, d21, .int 0, d23, .ref h1, d25, d26, d27, d28, d29, d30, d31, d32, d33, d34, d35, d36, d37, d38, d39, d40, d41, d42, d43, d44, d45, d46, d47, d48, d49, d50, d51, d52, d53, d54, d55])), (h1, .inl (cI, 5, .inl (fun _ => 0)))] s.heap.size = A at hD ⊢
  have hA : ∀ q : Nat, s.heap.size ≤ q → A q := fun q h => by rw [← hAe]; exact Or.inr h
  have hS : va_S A s.heap s.heap [] := va_S.rf
  have hP : va_P (dC, dI) vwCl [(h0, .inr (12, [d0, d1, d2, d3, d4, d5, d6, d7, d8, d9, d10, d11, d12, d13, d14, d15, d16, d17, d18, d19, d20, d21, .int 0, d23, .ref h1, d25, d26, d27, d28, d29, d30, d31, d32, d33, d34, d35, d36, d37, d38, d39, d40, d41, d42, d43, d44, d45, d46, d47, d48, d49, d50, d51, d52, d53, d54, d55])), (h1, .inl (cI, 5, .inl (fun _ => 0)))] s.heap := hP
  have hl := lv_entry ([.ref h0, .int p0]) (n := 3) (Nat.le_of_ble_eq_true rfl)
  rw [lg_entry_eq]
  generalize (lg_sl ([.ref h0, .int p0]) ++ List.replicate (3 - (lg_sl ([.ref h0, .int p0])).length) Slot.unset).toArray = ls at hl ⊢
  have hl : lv_has ls 3 [(0, .ref h0), (1, .int p0)] := hl
  refine lv_aload_n hx hb dX12_nights_0 rfl (lv_at hl 0 rfl) ?_
  refine lv_aload_n hx hb dX12_nights_1 rfl (lv_at hl 0 rfl) ?_
  refine va_get (D := (dC, dI)) (ci := 12) (v := .int 0) (C := RX12) (T := TX12) (N := 56) hx hb hts hinX12 hown hK hP 0 rfl rfl 22 (by decide) (hts (.fieldLink RX12 270 "DreamGuardModel" "men" "I") (by decide +kernel)) (fun _ h9 => h9) rfl dX12_nights_2 ?_
  refine lv_if_ne (tgt := 12) hx hb dX12_nights_5 (by decide) (fun c9 => absurd (by decide) c9) (fun _ => ?_)
  refine lv_iconst (v := 0) hx hb dX12_nights_8 (by decide) ?_
  refine lv_goto (tgt := 39) hx hb dX12_nights_9 (by decide) ?_
  have hPc := hP.sub (ws' := [(h0, .inr (12, [d0, d1, d2, d3, d4, d5, d6, d7, d8, d9, d10, d11, d12, d13, d14, d15, d16, d17, d18, d19, d20, d21, .int 0, d23, .ref h1, d25, d26, d27, d28, d29, d30, d31, d32, d33, d34, d35, d36, d37, d38, d39, d40, d41, d42, d43, d44, d45, d46, d47, d48, d49, d50, d51, d52, d53, d54, d55])), (h1, .inl (cI, 5, .inl (fun _ => 0)))]) [0, 1] rfl
  have hDc := hD.sub (ws' := [(h0, .inr (12, [d0, d1, d2, d3, d4, d5, d6, d7, d8, d9, d10, d11, d12, d13, d14, d15, d16, d17, d18, d19, d20, d21, .int 0, d23, .ref h1, d25, d26, d27, d28, d29, d30, d31, d32, d33, d34, d35, d36, d37, d38, d39, d40, d41, d42, d43, d44, d45, d46, d47, d48, d49, d50, d51, d52, d53, d54, d55])), (h1, .inl (cI, 5, .inl (fun _ => 0)))]) [0, 1] (by decide) rfl
  have hFc := va_free (wc := [(h0, .inr (12, [d0, d1, d2, d3, d4, d5, d6, d7, d8, d9, d10, d11, d12, d13, d14, d15, d16, d17, d18, d19, d20, d21, .int 0, d23, .ref h1, d25, d26, d27, d28, d29, d30, d31, d32, d33, d34, d35, d36, d37, d38, d39, d40, d41, d42, d43, d44, d45, d46, d47, d48, d49, d50, d51, d52, d53, d54, d55])), (h1, .inl (cI, 5, .inl (fun _ => 0)))]) hD hS hA [0, 1] rfl
  refine va_calli (va_runV (As := [.int 0]) (rest := []) ⟨hx, hb, hml, hown, hts⟩ (c_X12_isRefused l dC dI cI cZ s.heap.size h0 h1 d0 d1 d2 d3 d4 d5 d6 d7 d8 d9 d10 d11 d12 d13 d14 d15 d16 d17 d18 d19 d20 d21 (.int 0) d23 d25 d26 d27 d28 d29 d30 d31 d32 d33 d34 d35 d36 d37 d38 d39 d40 d41 d42 d43 d44 d45 d46 d47 d48 d49 d50 d51 d52 d53 d54 d55) (cwV 1 hts gX12_nights_X12_isRefused rfl rfl rfl (by decide +kernel) ⟨Nat.le_of_ble_eq_true rfl, Nat.le_of_ble_eq_true rfl⟩) (zPreV hPc hK hDc hG (ci := 12) (q0 := 0) rfl rfl) rfl rfl hl.1 rfl (lv_room (Nat.le_of_ble_eq_true rfl)) dX12_nights_39 ⟨Nat.le_of_ble_eq_true rfl, Nat.le_of_ble_eq_true rfl⟩) hS (fun q _ h => hFc q h) hFc (fun r1 u9 t9 H1 locs ht9 hvm hwr1 hB9 hz1 hk1 hS => ?_)
  have hP1 : va_P (dC, dI) vwCl [] H1 := zNoP
  have hD1 : va_D (va_A [(h0, .inr (12, [d0, d1, d2, d3, d4, d5, d6, d7, d8, d9, d10, d11, d12, d13, d14, d15, d16, d17, d18, d19, d20, d21, .int 0, d23, .ref h1, d25, d26, d27, d28, d29, d30, d31, d32, d33, d34, d35, d36, d37, d38, d39, d40, d41, d42, d43, d44, d45, d46, d47, d48, d49, d50, d51, d52, d53, d54, d55])), (h1, .inl (cI, 5, .inl (fun _ => 0)))] s.heap.size) [] := zNoD
  obtain ⟨hP, hD⟩ := va_join (wr := []) (w1 := []) hP hD [0, 1] [] rfl rfl (by decide) (by decide) hk1 hFc hP1 hD1
  try clear hz1 hk1 hvm ht9 u9 hPc hDc hFc hP1 hD1 hB9
  generalize H1 = H at hP hS ⊢
  have hP : va_P (dC, dI) vwCl [] H := hP
  have hD : va_D A [] := hD
  obtain rfl : r1 = 1 := hwr1.trans rfl
  refine lv_if_eq (tgt := 47) hx hb dX12_nights_42 (by decide) (fun c9 => absurd c9 (by decide)) (fun _ => ?_)
  refine lv_iconst (v := (-1)) hx hb dX12_nights_45 (by decide) ?_
  exact W.iret (v := (-1)) hx hb hr (fun t ht hW => ⟨⟨(-1), (), rfl, (by unfold s_X12_nights; first | rfl | simp), trivial⟩, hS.F ht⟩) hS.2.2 dX12_nights_46

def s_X12_end (p0 : Int32) : Int32 := (if p0 < 0 then 0 else (if p0 ≤ 0 then 1 else 0))
set_option maxHeartbeats 4000000 in
set_option maxRecDepth 100000 in
theorem c_X12_end (l : Launch) (dC : Nat → ClassId) (dI : Nat → Nat → Nat) (cI cZ : ClassId) (sz : Nat) (h0 : Nat) (d0 : Value) (d1 : Value) (d3 : Value) (d4 : Value) (d5 : Value) (d6 : Value) (d7 : Value) (d8 : Value) (d9 : Value) (d10 : Value) (d11 : Value) (d12 : Value) (d13 : Value) (d14 : Value) (d15 : Value) (d16 : Value) (d17 : Value) (d18 : Value) (d19 : Value) (d20 : Value) (d21 : Value) (d22 : Value) (d23 : Value) (d24 : Value) (d25 : Value) (d26 : Value) (d27 : Value) (d28 : Value) (d29 : Value) (d30 : Value) (d31 : Value) (d32 : Value) (d33 : Value) (d34 : Value) (d35 : Value) (d36 : Value) (d37 : Value) (d38 : Value) (d39 : Value) (d40 : Value) (d41 : Value) (d42 : Value) (d43 : Value) (d44 : Value) (d45 : Value) (d46 : Value) (d47 : Value) (d48 : Value) (d49 : Value) (d50 : Value) (d51 : Value) (d52 : Value) (d53 : Value) (d54 : Value) (d55 : Value) (p0 : Int32) : Met l yX12_end wsX12_end ({ frames := 0, cells := 0, slots := 0, locals := 0 }) (va_Pc [.ref h0, .int p0] (zPre dC dI cI cZ sz [(h0, .inr (12, [d0, d1, .int 0, d3, d4, d5, d6, d7, d8, d9, d10, d11, d12, d13, d14, d15, d16, d17, d18, d19, d20, d21, d22, d23, d24, d25, d26, d27, d28, d29, d30, d31, d32, d33, d34, d35, d36, d37, d38, d39, d40, d41, d42, d43, d44, d45, d46, d47, d48, d49, d50, d51, d52, d53, d54, d55]))])) (va_Qi (fun (r : Int32) (_ : Unit) => r = s_X12_end p0) (fun (_ : Unit) _ => True) (va_A [(h0, .inr (12, [d0, d1, .int 0, d3, d4, d5, d6, d7, d8, d9, d10, d11, d12, d13, d14, d15, d16, d17, d18, d19, d20, d21, d22, d23, d24, d25, d26, d27, d28, d29, d30, d31, d32, d33, d34, d35, d36, d37, d38, d39, d40, d41, d42, d43, d44, d45, d46, d47, d48, d49, d50, d51, d52, d53, d54, d55]))] sz)) 0 0 (va_A [(h0, .inr (12, [d0, d1, .int 0, d3, d4, d5, d6, d7, d8, d9, d10, d11, d12, d13, d14, d15, d16, d17, d18, d19, d20, d21, d22, d23, d24, d25, d26, d27, d28, d29, d30, d31, d32, d33, d34, d35, d36, d37, d38, d39, d40, d41, d42, d43, d44, d45, d46, d47, d48, d49, d50, d51, d52, d53, d54, d55]))] sz) := by
  refine Met.ofW (cc := cX12_end) (maxL := 2) (ret := (some .boolean)) (by decide) rfl ?_
  intro p e s m args below meth c s₁ B hml hv
  obtain ⟨rfl, hsz, hP, hK, hD0, hG⟩ := hv
  have hx := B.exec
  have hb := B.bytes
  have hr := B.returns
  have hts := atoms_spec (ws := wsX12_end) B.pre
  have hown : s.vm.findClass RX12 = some m.cls := findClass_of_methodNamed B.named
  have hlocks := B.notSynchronized
  have hinX12 : ∀ w ∈ wsX120, w ∈ wsX12_end := by decide +kernel
  subst hsz
  have hD := hD0.self (sz := s.heap.size)
  generalize hAe : va_A [(h0, .inr (12, [d0, d1, .int 0, d3, d4, d5, d6, d7, d8, d9, d10, d11, d12, d13, d14, d15, d16, d17, d18, d19, d20, d21, d22, d23, d24, d25, d26, d27, d28, d29, d30, d31, d32, d33, d34, d35, d36, d37, d38, d39, d40, d41, d42, d43, d44, d45, d46, d47, d48, d49, d50, d51, d52, d53, d54, d55]))] s.heap.size = A at hD ⊢
  have hA : ∀ q : Nat, s.heap.size ≤ q → A q := fun q h => by rw [← hAe]; exact Or.inr h
  have hS : va_S A s.heap s.heap [] := va_S.rf
  have hP : va_P (dC, dI) vwCl [(h0, .inr (12, [d0, d1, .int 0, d3, d4, d5, d6, d7, d8, d9, d10, d11, d12, d13, d14, d15, d16, d17, d18, d19, d20, d21, d22, d23, d24, d25, d26, d27, d28, d29, d30, d31, d32, d33, d34, d35, d36, d37, d38, d39, d40, d41, d42, d43, d44, d45, d46, d47, d48, d49, d50, d51, d52, d53, d54, d55]))] s.heap := hP
  have hl := lv_entry ([.ref h0, .int p0]) (n := 2) (Nat.le_of_ble_eq_true rfl)
  rw [lg_entry_eq]
  generalize (lg_sl ([.ref h0, .int p0]) ++ List.replicate (2 - (lg_sl ([.ref h0, .int p0])).length) Slot.unset).toArray = ls at hl ⊢
  have hl : lv_has ls 2 [(0, .ref h0), (1, .int p0)] := hl
  refine lv_iload_n hx hb dX12_end_0 rfl (lv_at hl 1 rfl) ?_
  refine lv_if_lt (tgt := 12) hx hb dX12_end_1 (by decide) (fun c1 => ?_) (fun c1 => ?_)
  · skip
    refine lv_iconst (v := 0) hx hb dX12_end_12 (by decide) ?_
    exact W.zret (v := 0) hx hb hr rfl (fun t ht hW => ⟨⟨0, (), rfl, (by unfold s_X12_end; rw [if_pos c1]), trivial⟩, hS.F ht⟩) hS.2.2 dX12_end_13
  · skip
    refine lv_iload_n hx hb dX12_end_4 rfl (lv_at hl 1 rfl) ?_
    refine lv_aload_n hx hb dX12_end_5 rfl (lv_at hl 0 rfl) ?_
    refine va_get (D := (dC, dI)) (ci := 12) (v := .int 0) (C := RX12) (T := TX12) (N := 56) hx hb hts hinX12 hown hK hP 0 rfl rfl 2 (by decide) (hts (.fieldLink RX12 121 "DreamGuardModel" "size" "I") (by decide +kernel)) (fun _ h9 => h9) rfl dX12_end_6 ?_
    refine lv_icmp_le (tgt := 14) hx hb dX12_end_9 (by decide) (fun c2 => ?_) (fun c2 => ?_)
    · skip
      refine lv_aload_n hx hb dX12_end_14 rfl (lv_at hl 0 rfl) ?_
      refine lv_iload_n hx hb dX12_end_15 rfl (lv_at hl 1 rfl) ?_
      refine va_put (D := (dC, dI)) (ci := 12) (v := .int p0) (ty := .int) (C := RX12) (T := TX12) (N := 56) hx hb hts hinX12 tyX12 tyX12_ok nmX12 hown hK hP hD hS 0 rfl rfl 2 (by decide) (hts (.fieldLink RX12 121 "DreamGuardModel" "size" "I") (by decide +kernel)) (fun _ h9 => h9) rfl (by decide +kernel) rfl rfl (Nat.le_of_ble_eq_true rfl) dX12_end_16 (fun H locs hP hD hS => ?_)
      have hP : va_P (dC, dI) vwCl [(h0, .inr (12, [d0, d1, .int p0, d3, d4, d5, d6, d7, d8, d9, d10, d11, d12, d13, d14, d15, d16, d17, d18, d19, d20, d21, d22, d23, d24, d25, d26, d27, d28, d29, d30, d31, d32, d33, d34, d35, d36, d37, d38, d39, d40, d41, d42, d43, d44, d45, d46, d47, d48, d49, d50, d51, d52, d53, d54, d55]))] H := hP
      have hD : va_D A [(h0, .inr (12, [d0, d1, .int p0, d3, d4, d5, d6, d7, d8, d9, d10, d11, d12, d13, d14, d15, d16, d17, d18, d19, d20, d21, d22, d23, d24, d25, d26, d27, d28, d29, d30, d31, d32, d33, d34, d35, d36, d37, d38, d39, d40, d41, d42, d43, d44, d45, d46, d47, d48, d49, d50, d51, d52, d53, d54, d55]))] := hD
      refine lv_iconst (v := 1) hx hb dX12_end_19 (by decide) ?_
      exact W.zret (v := 1) hx hb hr rfl (fun t ht hW => ⟨⟨1, (), rfl, (by unfold s_X12_end; rw [if_neg c1, if_pos c2]), trivial⟩, hS.F ht⟩) hS.2.2 dX12_end_20
    · skip
      refine lv_iconst (v := 0) hx hb dX12_end_12 (by decide) ?_
      exact W.zret (v := 0) hx hb hr rfl (fun t ht hW => ⟨⟨0, (), rfl, (by unfold s_X12_end; rw [if_neg c1, if_neg c2]), trivial⟩, hS.F ht⟩) hS.2.2 dX12_end_13

def s_X12_law (p0 : Int32) : Int32 := (if (s_X12_in p0 (-1) (-1)) = 0 then 0 else 1)
set_option maxHeartbeats 4000000 in
set_option maxRecDepth 100000 in
theorem c_X12_law (l : Launch) (dC : Nat → ClassId) (dI : Nat → Nat → Nat) (cI cZ : ClassId) (sz : Nat) (h0 : Nat) (d0 : Value) (d1 : Value) (d2 : Value) (d3 : Value) (d4 : Value) (d5 : Value) (d6 : Value) (d7 : Value) (d8 : Value) (d9 : Value) (d10 : Value) (d11 : Value) (d12 : Value) (d14 : Value) (d15 : Value) (d16 : Value) (d17 : Value) (d18 : Value) (d19 : Value) (d20 : Value) (d21 : Value) (d22 : Value) (d23 : Value) (d24 : Value) (d25 : Value) (d26 : Value) (d27 : Value) (d28 : Value) (d29 : Value) (d30 : Value) (d31 : Value) (d32 : Value) (d33 : Value) (d34 : Value) (d35 : Value) (d36 : Value) (d37 : Value) (d38 : Value) (d39 : Value) (d40 : Value) (d41 : Value) (d42 : Value) (d43 : Value) (d44 : Value) (d45 : Value) (d46 : Value) (d47 : Value) (d48 : Value) (d49 : Value) (d50 : Value) (d51 : Value) (d52 : Value) (d53 : Value) (d54 : Value) (d55 : Value) (p0 : Int32) : Met l yX12_law wsX12_law ({ frames := 1, cells := 0, slots := 0, locals := 22 }) (va_Pc [.ref h0, .int p0] (zPre dC dI cI cZ sz [(h0, .inr (12, [d0, d1, d2, d3, d4, d5, d6, d7, d8, d9, d10, d11, d12, .int 0, d14, d15, d16, d17, d18, d19, d20, d21, d22, d23, d24, d25, d26, d27, d28, d29, d30, d31, d32, d33, d34, d35, d36, d37, d38, d39, d40, d41, d42, d43, d44, d45, d46, d47, d48, d49, d50, d51, d52, d53, d54, d55]))])) (va_Qi (fun (r : Int32) (_ : Unit) => r = s_X12_law p0) (fun (_ : Unit) _ => True) (va_A [(h0, .inr (12, [d0, d1, d2, d3, d4, d5, d6, d7, d8, d9, d10, d11, d12, .int 0, d14, d15, d16, d17, d18, d19, d20, d21, d22, d23, d24, d25, d26, d27, d28, d29, d30, d31, d32, d33, d34, d35, d36, d37, d38, d39, d40, d41, d42, d43, d44, d45, d46, d47, d48, d49, d50, d51, d52, d53, d54, d55]))] sz)) 0 0 (va_A [(h0, .inr (12, [d0, d1, d2, d3, d4, d5, d6, d7, d8, d9, d10, d11, d12, .int 0, d14, d15, d16, d17, d18, d19, d20, d21, d22, d23, d24, d25, d26, d27, d28, d29, d30, d31, d32, d33, d34, d35, d36, d37, d38, d39, d40, d41, d42, d43, d44, d45, d46, d47, d48, d49, d50, d51, d52, d53, d54, d55]))] sz) := by
  refine Met.ofW (cc := cX12_law) (maxL := 2) (ret := (some .boolean)) (by decide) rfl ?_
  intro p e s m args below meth c s₁ B hml hv
  obtain ⟨rfl, hsz, hP, hK, hD0, hG⟩ := hv
  have hx := B.exec
  have hb := B.bytes
  have hr := B.returns
  have hts := atoms_spec (ws := wsX12_law) B.pre
  have hown : s.vm.findClass RX12 = some m.cls := findClass_of_methodNamed B.named
  have hlocks := B.notSynchronized
  have hinX12 : ∀ w ∈ wsX120, w ∈ wsX12_law := by decide +kernel
  subst hsz
  have hD := hD0.self (sz := s.heap.size)
  generalize hAe : va_A [(h0, .inr (12, [d0, d1, d2, d3, d4, d5, d6, d7, d8, d9, d10, d11, d12, .int 0, d14, d15, d16, d17, d18, d19, d20, d21, d22, d23, d24, d25, d26, d27, d28, d29, d30, d31, d32, d33, d34, d35, d36, d37, d38, d39, d40, d41, d42, d43, d44, d45, d46, d47, d48, d49, d50, d51, d52, d53, d54, d55]))] s.heap.size = A at hD ⊢
  have hA : ∀ q : Nat, s.heap.size ≤ q → A q := fun q h => by rw [← hAe]; exact Or.inr h
  have hS : va_S A s.heap s.heap [] := va_S.rf
  have hP : va_P (dC, dI) vwCl [(h0, .inr (12, [d0, d1, d2, d3, d4, d5, d6, d7, d8, d9, d10, d11, d12, .int 0, d14, d15, d16, d17, d18, d19, d20, d21, d22, d23, d24, d25, d26, d27, d28, d29, d30, d31, d32, d33, d34, d35, d36, d37, d38, d39, d40, d41, d42, d43, d44, d45, d46, d47, d48, d49, d50, d51, d52, d53, d54, d55]))] s.heap := hP
  have hl := lv_entry ([.ref h0, .int p0]) (n := 2) (Nat.le_of_ble_eq_true rfl)
  rw [lg_entry_eq]
  generalize (lg_sl ([.ref h0, .int p0]) ++ List.replicate (2 - (lg_sl ([.ref h0, .int p0])).length) Slot.unset).toArray = ls at hl ⊢
  have hl : lv_has ls 2 [(0, .ref h0), (1, .int p0)] := hl
  refine lv_iload_n hx hb dX12_law_0 rfl (lv_at hl 1 rfl) ?_
  refine lv_iconst (v := (-1)) hx hb dX12_law_1 (by decide) ?_
  refine lv_aload_n hx hb dX12_law_2 rfl (lv_at hl 0 rfl) ?_
  refine va_get (D := (dC, dI)) (ci := 12) (v := .int 0) (C := RX12) (T := TX12) (N := 56) hx hb hts hinX12 hown hK hP 0 rfl rfl 13 (by decide) (hts (.fieldLink RX12 295 "DreamGuardModel" "laws" "I") (by decide +kernel)) (fun _ h9 => h9) rfl dX12_law_3 ?_
  refine lv_iconst (v := 1) hx hb dX12_law_6 (by decide) ?_
  refine lv_isub hx hb dX12_law_7 ?_
  refine lv_topi (fun k1 ek1 => ?_)
  obtain rfl : k1 = (-1) := ek1.trans (by decide)
  have hPc : va_P (dC, dI) vwCl [] _ := zNoP (H := s.heap)
  have hDc : va_D (fun _ : Nat => True) [] := zNoD
  refine va_calli (va_runS (As := [.int p0, .int (-1), .int (-1)]) (rest := []) ⟨hx, hb, hml, hown, hts⟩ (c_X12_in l dC dI cI cZ s.heap.size p0 (-1) (-1)) (cwS 3 hts gX12_law_X12_in rfl rfl rfl (by decide +kernel) ⟨Nat.le_of_ble_eq_true rfl, Nat.le_of_ble_eq_true rfl⟩) (zPreS hPc hK hDc hG) rfl rfl hl.1 rfl (lv_room (Nat.le_of_ble_eq_true rfl)) dX12_law_8 ⟨Nat.le_of_ble_eq_true rfl, Nat.le_of_ble_eq_true rfl⟩) hS (fun _ _ h => h.elim) (fun _ h => h.elim) (fun r2 u9 t9 H1 locs ht9 hvm hwr2 hB9 hz1 hk1 hS => ?_)
  replace hP := zKept hP hk1
  try clear hB9 hz1 hk1 hvm ht9 u9 hPc hDc
  generalize H1 = H at hP hS ⊢
  obtain rfl : r2 = s_X12_in p0 (-1) (-1) := hwr2
  refine lv_if_ne (tgt := 16) hx hb dX12_law_11 (by decide) (fun c3 => ?_) (fun c3 => ?_)
  · skip
    refine lv_aload_n hx hb dX12_law_16 rfl (lv_at hl 0 rfl) ?_
    refine lv_iload_n hx hb dX12_law_17 rfl (lv_at hl 1 rfl) ?_
    refine va_put (D := (dC, dI)) (ci := 12) (v := .int p0) (ty := .int) (C := RX12) (T := TX12) (N := 56) hx hb hts hinX12 tyX12 tyX12_ok nmX12 hown hK hP hD hS 0 rfl rfl 25 (by decide) (hts (.fieldLink RX12 58 "DreamGuardModel" "holding" "I") (by decide +kernel)) (fun _ h9 => h9) rfl (by decide +kernel) rfl rfl (Nat.le_of_ble_eq_true rfl) dX12_law_18 (fun H locs hP hD hS => ?_)
    have hP : va_P (dC, dI) vwCl [(h0, .inr (12, [d0, d1, d2, d3, d4, d5, d6, d7, d8, d9, d10, d11, d12, .int 0, d14, d15, d16, d17, d18, d19, d20, d21, d22, d23, d24, .int p0, d26, d27, d28, d29, d30, d31, d32, d33, d34, d35, d36, d37, d38, d39, d40, d41, d42, d43, d44, d45, d46, d47, d48, d49, d50, d51, d52, d53, d54, d55]))] H := hP
    have hD : va_D A [(h0, .inr (12, [d0, d1, d2, d3, d4, d5, d6, d7, d8, d9, d10, d11, d12, .int 0, d14, d15, d16, d17, d18, d19, d20, d21, d22, d23, d24, .int p0, d26, d27, d28, d29, d30, d31, d32, d33, d34, d35, d36, d37, d38, d39, d40, d41, d42, d43, d44, d45, d46, d47, d48, d49, d50, d51, d52, d53, d54, d55]))] := hD
    refine lv_iconst (v := 1) hx hb dX12_law_21 (by decide) ?_
    exact W.zret (v := 1) hx hb hr rfl (fun t ht hW => ⟨⟨1, (), rfl, (by unfold s_X12_law; rw [if_neg c3]), trivial⟩, hS.F ht⟩) hS.2.2 dX12_law_22
  · skip
    refine lv_iconst (v := 0) hx hb dX12_law_14 (by decide) ?_
    exact W.zret (v := 0) hx hb hr rfl (fun t ht hW => ⟨⟨0, (), rfl, (by unfold s_X12_law; rw [if_pos c3]), trivial⟩, hS.F ht⟩) hS.2.2 dX12_law_15

def s_X12_snow (p0 : Int32) : Int32 := (if (s_X12_in p0 0 9) = 0 then 0 else (if p0 = 0 then 0 else 1))
set_option maxHeartbeats 4000000 in
set_option maxRecDepth 100000 in
theorem c_X12_snow (l : Launch) (dC : Nat → ClassId) (dI : Nat → Nat → Nat) (cI cZ : ClassId) (sz : Nat) (h0 : Nat) (d0 : Value) (d1 : Value) (d2 : Value) (d3 : Value) (d4 : Value) (d5 : Value) (d6 : Value) (d7 : Value) (d8 : Value) (d9 : Value) (d10 : Value) (d11 : Value) (d12 : Value) (d13 : Value) (d14 : Value) (d15 : Value) (d16 : Value) (d17 : Value) (d18 : Value) (d19 : Value) (d20 : Value) (d21 : Value) (d22 : Value) (d23 : Value) (d24 : Value) (d25 : Value) (d27 : Value) (d28 : Value) (d29 : Value) (d30 : Value) (d31 : Value) (d32 : Value) (d33 : Value) (d34 : Value) (d35 : Value) (d36 : Value) (d37 : Value) (d38 : Value) (d39 : Value) (d40 : Value) (d41 : Value) (d42 : Value) (d43 : Value) (d44 : Value) (d45 : Value) (d46 : Value) (d47 : Value) (d48 : Value) (d49 : Value) (d50 : Value) (d51 : Value) (d52 : Value) (d53 : Value) (d54 : Value) (d55 : Value) (p0 : Int32) : Met l yX12_snow wsX12_snow ({ frames := 1, cells := 0, slots := 0, locals := 22 }) (va_Pc [.ref h0, .int p0] (zPre dC dI cI cZ sz [(h0, .inr (12, [d0, d1, d2, d3, d4, d5, d6, d7, d8, d9, d10, d11, d12, d13, d14, d15, d16, d17, d18, d19, d20, d21, d22, d23, d24, d25, .int 0, d27, d28, d29, d30, d31, d32, d33, d34, d35, d36, d37, d38, d39, d40, d41, d42, d43, d44, d45, d46, d47, d48, d49, d50, d51, d52, d53, d54, d55]))])) (va_Qi (fun (r : Int32) (_ : Unit) => r = s_X12_snow p0) (fun (_ : Unit) _ => True) (va_A [(h0, .inr (12, [d0, d1, d2, d3, d4, d5, d6, d7, d8, d9, d10, d11, d12, d13, d14, d15, d16, d17, d18, d19, d20, d21, d22, d23, d24, d25, .int 0, d27, d28, d29, d30, d31, d32, d33, d34, d35, d36, d37, d38, d39, d40, d41, d42, d43, d44, d45, d46, d47, d48, d49, d50, d51, d52, d53, d54, d55]))] sz)) 0 0 (va_A [(h0, .inr (12, [d0, d1, d2, d3, d4, d5, d6, d7, d8, d9, d10, d11, d12, d13, d14, d15, d16, d17, d18, d19, d20, d21, d22, d23, d24, d25, .int 0, d27, d28, d29, d30, d31, d32, d33, d34, d35, d36, d37, d38, d39, d40, d41, d42, d43, d44, d45, d46, d47, d48, d49, d50, d51, d52, d53, d54, d55]))] sz) := by
  refine Met.ofW (cc := cX12_snow) (maxL := 2) (ret := (some .boolean)) (by decide) rfl ?_
  intro p e s m args below meth c s₁ B hml hv
  obtain ⟨rfl, hsz, hP, hK, hD0, hG⟩ := hv
  have hx := B.exec
  have hb := B.bytes
  have hr := B.returns
  have hts := atoms_spec (ws := wsX12_snow) B.pre
  have hown : s.vm.findClass RX12 = some m.cls := findClass_of_methodNamed B.named
  have hlocks := B.notSynchronized
  have hinX12 : ∀ w ∈ wsX120, w ∈ wsX12_snow := by decide +kernel
  subst hsz
  have hD := hD0.self (sz := s.heap.size)
  generalize hAe : va_A [(h0, .inr (12, [d0, d1, d2, d3, d4, d5, d6, d7, d8, d9, d10, d11, d12, d13, d14, d15, d16, d17, d18, d19, d20, d21, d22, d23, d24, d25, .int 0, d27, d28, d29, d30, d31, d32, d33, d34, d35, d36, d37, d38, d39, d40, d41, d42, d43, d44, d45, d46, d47, d48, d49, d50, d51, d52, d53, d54, d55]))] s.heap.size = A at hD ⊢
  have hA : ∀ q : Nat, s.heap.size ≤ q → A q := fun q h => by rw [← hAe]; exact Or.inr h
  have hS : va_S A s.heap s.heap [] := va_S.rf
  have hP : va_P (dC, dI) vwCl [(h0, .inr (12, [d0, d1, d2, d3, d4, d5, d6, d7, d8, d9, d10, d11, d12, d13, d14, d15, d16, d17, d18, d19, d20, d21, d22, d23, d24, d25, .int 0, d27, d28, d29, d30, d31, d32, d33, d34, d35, d36, d37, d38, d39, d40, d41, d42, d43, d44, d45, d46, d47, d48, d49, d50, d51, d52, d53, d54, d55]))] s.heap := hP
  have hl := lv_entry ([.ref h0, .int p0]) (n := 2) (Nat.le_of_ble_eq_true rfl)
  rw [lg_entry_eq]
  generalize (lg_sl ([.ref h0, .int p0]) ++ List.replicate (2 - (lg_sl ([.ref h0, .int p0])).length) Slot.unset).toArray = ls at hl ⊢
  have hl : lv_has ls 2 [(0, .ref h0), (1, .int p0)] := hl
  refine lv_iload_n hx hb dX12_snow_0 rfl (lv_at hl 1 rfl) ?_
  refine lv_iconst (v := 0) hx hb dX12_snow_1 (by decide) ?_
  refine lv_bipush (v := 9) hx hb dX12_snow_2 (by decide) ?_
  have hPc : va_P (dC, dI) vwCl [] _ := zNoP (H := s.heap)
  have hDc : va_D (fun _ : Nat => True) [] := zNoD
  refine va_calli (va_runS (As := [.int p0, .int 0, .int 9]) (rest := []) ⟨hx, hb, hml, hown, hts⟩ (c_X12_in l dC dI cI cZ s.heap.size p0 0 9) (cwS 3 hts gX12_snow_X12_in rfl rfl rfl (by decide +kernel) ⟨Nat.le_of_ble_eq_true rfl, Nat.le_of_ble_eq_true rfl⟩) (zPreS hPc hK hDc hG) rfl rfl hl.1 rfl (lv_room (Nat.le_of_ble_eq_true rfl)) dX12_snow_4 ⟨Nat.le_of_ble_eq_true rfl, Nat.le_of_ble_eq_true rfl⟩) hS (fun _ _ h => h.elim) (fun _ h => h.elim) (fun r1 u9 t9 H1 locs ht9 hvm hwr1 hB9 hz1 hk1 hS => ?_)
  replace hP := zKept hP hk1
  try clear hB9 hz1 hk1 hvm ht9 u9 hPc hDc
  generalize H1 = H at hP hS ⊢
  obtain rfl : r1 = s_X12_in p0 0 9 := hwr1
  refine lv_if_eq (tgt := 18) hx hb dX12_snow_7 (by decide) (fun c2 => ?_) (fun c2 => ?_)
  · skip
    refine lv_iconst (v := 0) hx hb dX12_snow_18 (by decide) ?_
    exact W.zret (v := 0) hx hb hr rfl (fun t ht hW => ⟨⟨0, (), rfl, (by unfold s_X12_snow; rw [if_pos c2]), trivial⟩, hS.F ht⟩) hS.2.2 dX12_snow_19
  · skip
    refine lv_iload_n hx hb dX12_snow_10 rfl (lv_at hl 1 rfl) ?_
    refine lv_aload_n hx hb dX12_snow_11 rfl (lv_at hl 0 rfl) ?_
    refine va_get (D := (dC, dI)) (ci := 12) (v := .int 0) (C := RX12) (T := TX12) (N := 56) hx hb hts hinX12 hown hK hP 0 rfl rfl 26 (by decide) (hts (.fieldLink RX12 363 "DreamGuardModel" "snowy" "I") (by decide +kernel)) (fun _ h9 => h9) rfl dX12_snow_12 ?_
    refine lv_icmp_ne (tgt := 20) hx hb dX12_snow_15 (by decide) (fun c3 => ?_) (fun c3 => ?_)
    · skip
      refine lv_aload_n hx hb dX12_snow_20 rfl (lv_at hl 0 rfl) ?_
      refine lv_iload_n hx hb dX12_snow_21 rfl (lv_at hl 1 rfl) ?_
      refine va_put (D := (dC, dI)) (ci := 12) (v := .int p0) (ty := .int) (C := RX12) (T := TX12) (N := 56) hx hb hts hinX12 tyX12 tyX12_ok nmX12 hown hK hP hD hS 0 rfl rfl 26 (by decide) (hts (.fieldLink RX12 363 "DreamGuardModel" "snowy" "I") (by decide +kernel)) (fun _ h9 => h9) rfl (by decide +kernel) rfl rfl (Nat.le_of_ble_eq_true rfl) dX12_snow_22 (fun H locs hP hD hS => ?_)
      have hP : va_P (dC, dI) vwCl [(h0, .inr (12, [d0, d1, d2, d3, d4, d5, d6, d7, d8, d9, d10, d11, d12, d13, d14, d15, d16, d17, d18, d19, d20, d21, d22, d23, d24, d25, .int p0, d27, d28, d29, d30, d31, d32, d33, d34, d35, d36, d37, d38, d39, d40, d41, d42, d43, d44, d45, d46, d47, d48, d49, d50, d51, d52, d53, d54, d55]))] H := hP
      have hD : va_D A [(h0, .inr (12, [d0, d1, d2, d3, d4, d5, d6, d7, d8, d9, d10, d11, d12, d13, d14, d15, d16, d17, d18, d19, d20, d21, d22, d23, d24, d25, .int p0, d27, d28, d29, d30, d31, d32, d33, d34, d35, d36, d37, d38, d39, d40, d41, d42, d43, d44, d45, d46, d47, d48, d49, d50, d51, d52, d53, d54, d55]))] := hD
      refine lv_iconst (v := 1) hx hb dX12_snow_25 (by decide) ?_
      exact W.zret (v := 1) hx hb hr rfl (fun t ht hW => ⟨⟨1, (), rfl, (by unfold s_X12_snow; rw [if_neg c2, if_neg c3]), trivial⟩, hS.F ht⟩) hS.2.2 dX12_snow_26
    · skip
      refine lv_iconst (v := 0) hx hb dX12_snow_18 (by decide) ?_
      exact W.zret (v := 0) hx hb hr rfl (fun t ht hW => ⟨⟨0, (), rfl, (by unfold s_X12_snow; rw [if_neg c2, if_pos c3]), trivial⟩, hS.F ht⟩) hS.2.2 dX12_snow_19

def s_X12_back : Int32 := (-1)
set_option maxHeartbeats 4000000 in
set_option maxRecDepth 100000 in
theorem c_X12_back (l : Launch) (dC : Nat → ClassId) (dI : Nat → Nat → Nat) (cI cZ : ClassId) (sz : Nat) (h0 : Nat) (d0 : Value) (d1 : Value) (d2 : Value) (d3 : Value) (d4 : Value) (d5 : Value) (d6 : Value) (d7 : Value) (d8 : Value) (d9 : Value) (d10 : Value) (d11 : Value) (d12 : Value) (d13 : Value) (d14 : Value) (d15 : Value) (d16 : Value) (d17 : Value) (d18 : Value) (d19 : Value) (d20 : Value) (d21 : Value) (d22 : Value) (d23 : Value) (d24 : Value) (d25 : Value) (d26 : Value) (d27 : Value) (d28 : Value) (d29 : Value) (d30 : Value) (d31 : Value) (d32 : Value) (d33 : Value) (d34 : Value) (d35 : Value) (d36 : Value) (d37 : Value) (d38 : Value) (d39 : Value) (d40 : Value) (d41 : Value) (d42 : Value) (d43 : Value) (d44 : Value) (d45 : Value) (d46 : Value) (d47 : Value) (d48 : Value) (d49 : Value) (d50 : Value) (d51 : Value) (d52 : Value) (d53 : Value) (d54 : Value) : Met l yX12_back wsX12_back ({ frames := 0, cells := 0, slots := 0, locals := 0 }) (va_Pc [.ref h0] (zPre dC dI cI cZ sz [(h0, .inr (12, [d0, d1, d2, d3, d4, d5, d6, d7, d8, d9, d10, d11, d12, d13, d14, d15, d16, d17, d18, d19, d20, d21, d22, d23, d24, d25, d26, d27, d28, d29, d30, d31, d32, d33, d34, d35, d36, d37, d38, d39, d40, d41, d42, d43, d44, d45, d46, d47, d48, d49, d50, d51, d52, d53, d54, .int 0]))])) (va_Qi (fun (r : Int32) (_ : Unit) => r = s_X12_back) (fun (_ : Unit) _ => True) (fun _ => False)) 0 0 (fun _ => False) := by
  refine Met.ofW (cc := cX12_back) (maxL := 2) (ret := (some .int)) (by decide) rfl ?_
  intro p e s m args below meth c s₁ B hml hv
  obtain ⟨rfl, hsz, hP, hK, hD0, hG⟩ := hv
  have hx := B.exec
  have hb := B.bytes
  have hr := B.returns
  have hts := atoms_spec (ws := wsX12_back) B.pre
  have hown : s.vm.findClass RX12 = some m.cls := findClass_of_methodNamed B.named
  have hlocks := B.notSynchronized
  have hinX12 : ∀ w ∈ wsX120, w ∈ wsX12_back := by decide +kernel
  subst hsz
  have hS : va_S (fun _ : Nat => False) s.heap s.heap [] := va_S.rf
  have hP : va_P (dC, dI) vwCl [(h0, .inr (12, [d0, d1, d2, d3, d4, d5, d6, d7, d8, d9, d10, d11, d12, d13, d14, d15, d16, d17, d18, d19, d20, d21, d22, d23, d24, d25, d26, d27, d28, d29, d30, d31, d32, d33, d34, d35, d36, d37, d38, d39, d40, d41, d42, d43, d44, d45, d46, d47, d48, d49, d50, d51, d52, d53, d54, .int 0]))] s.heap := hP
  have hl := lv_entry ([.ref h0]) (n := 2) (Nat.le_of_ble_eq_true rfl)
  rw [lg_entry_eq]
  generalize (lg_sl ([.ref h0]) ++ List.replicate (2 - (lg_sl ([.ref h0])).length) Slot.unset).toArray = ls at hl ⊢
  have hl : lv_has ls 2 [(0, .ref h0)] := hl
  refine lv_aload_n hx hb dX12_back_0 rfl (lv_at hl 0 rfl) ?_
  refine va_get (D := (dC, dI)) (ci := 12) (v := .int 0) (C := RX12) (T := TX12) (N := 56) hx hb hts hinX12 hown hK hP 0 rfl rfl 55 (by decide) (hts (.fieldLink RX12 288 "DreamGuardModel" "hasImage" "Z") (by decide +kernel)) (fun _ h9 => h9) rfl dX12_back_1 ?_
  refine lv_if_ne (tgt := 9) hx hb dX12_back_4 (by decide) (fun c9 => absurd (by decide) c9) (fun _ => ?_)
  refine lv_iconst (v := (-1)) hx hb dX12_back_7 (by decide) ?_
  exact W.iret (v := (-1)) hx hb hr (fun t ht hW => ⟨⟨(-1), (), rfl, (by unfold s_X12_back; first | rfl | simp), trivial⟩, hS.F ht⟩) hS.2.2 dX12_back_8

def s_X12_undo : Int32 := (-1)
set_option maxHeartbeats 4000000 in
set_option maxRecDepth 100000 in
theorem c_X12_undo (l : Launch) (dC : Nat → ClassId) (dI : Nat → Nat → Nat) (cI cZ : ClassId) (sz : Nat) (h0 : Nat) (d0 : Value) (d1 : Value) (d2 : Value) (d3 : Value) (d4 : Value) (d5 : Value) (d6 : Value) (d7 : Value) (d8 : Value) (d9 : Value) (d10 : Value) (d11 : Value) (d12 : Value) (d13 : Value) (d14 : Value) (d15 : Value) (d16 : Value) (d17 : Value) (d18 : Value) (d19 : Value) (d20 : Value) (d21 : Value) (d22 : Value) (d23 : Value) (d24 : Value) (d25 : Value) (d26 : Value) (d27 : Value) (d28 : Value) (d29 : Value) (d30 : Value) (d31 : Value) (d32 : Value) (d33 : Value) (d34 : Value) (d35 : Value) (d36 : Value) (d37 : Value) (d38 : Value) (d40 : Value) (d41 : Value) (d42 : Value) (d43 : Value) (d44 : Value) (d45 : Value) (d46 : Value) (d47 : Value) (d48 : Value) (d49 : Value) (d50 : Value) (d51 : Value) (d52 : Value) (d53 : Value) (d54 : Value) (d55 : Value) : Met l yX12_undo wsX12_undo ({ frames := 0, cells := 0, slots := 0, locals := 0 }) (va_Pc [.ref h0] (zPre dC dI cI cZ sz [(h0, .inr (12, [d0, d1, d2, d3, d4, d5, d6, d7, d8, d9, d10, d11, d12, d13, d14, d15, d16, d17, d18, d19, d20, d21, d22, d23, d24, d25, d26, d27, d28, d29, d30, d31, d32, d33, d34, d35, d36, d37, d38, .int 0, d40, d41, d42, d43, d44, d45, d46, d47, d48, d49, d50, d51, d52, d53, d54, d55]))])) (va_Qi (fun (r : Int32) (_ : Unit) => r = s_X12_undo) (fun (_ : Unit) _ => True) (fun _ => False)) 0 0 (fun _ => False) := by
  refine Met.ofW (cc := cX12_undo) (maxL := 2) (ret := (some .int)) (by decide) rfl ?_
  intro p e s m args below meth c s₁ B hml hv
  obtain ⟨rfl, hsz, hP, hK, hD0, hG⟩ := hv
  have hx := B.exec
  have hb := B.bytes
  have hr := B.returns
  have hts := atoms_spec (ws := wsX12_undo) B.pre
  have hown : s.vm.findClass RX12 = some m.cls := findClass_of_methodNamed B.named
  have hlocks := B.notSynchronized
  have hinX12 : ∀ w ∈ wsX120, w ∈ wsX12_undo := by decide +kernel
  subst hsz
  have hS : va_S (fun _ : Nat => False) s.heap s.heap [] := va_S.rf
  have hP : va_P (dC, dI) vwCl [(h0, .inr (12, [d0, d1, d2, d3, d4, d5, d6, d7, d8, d9, d10, d11, d12, d13, d14, d15, d16, d17, d18, d19, d20, d21, d22, d23, d24, d25, d26, d27, d28, d29, d30, d31, d32, d33, d34, d35, d36, d37, d38, .int 0, d40, d41, d42, d43, d44, d45, d46, d47, d48, d49, d50, d51, d52, d53, d54, d55]))] s.heap := hP
  have hl := lv_entry ([.ref h0]) (n := 2) (Nat.le_of_ble_eq_true rfl)
  rw [lg_entry_eq]
  generalize (lg_sl ([.ref h0]) ++ List.replicate (2 - (lg_sl ([.ref h0])).length) Slot.unset).toArray = ls at hl ⊢
  have hl : lv_has ls 2 [(0, .ref h0)] := hl
  refine lv_aload_n hx hb dX12_undo_0 rfl (lv_at hl 0 rfl) ?_
  refine va_get (D := (dC, dI)) (ci := 12) (v := .int 0) (C := RX12) (T := TX12) (N := 56) hx hb hts hinX12 hown hK hP 0 rfl rfl 39 (by decide) (hts (.fieldLink RX12 285 "DreamGuardModel" "acts" "I") (by decide +kernel)) (fun _ h9 => h9) rfl dX12_undo_1 ?_
  refine lv_if_ne (tgt := 9) hx hb dX12_undo_4 (by decide) (fun c9 => absurd (by decide) c9) (fun _ => ?_)
  refine lv_iconst (v := (-1)) hx hb dX12_undo_7 (by decide) ?_
  exact W.iret (v := (-1)) hx hb hr (fun t ht hW => ⟨⟨(-1), (), rfl, (by unfold s_X12_undo; first | rfl | simp), trivial⟩, hS.F ht⟩) hS.2.2 dX12_undo_8

theorem zin_in4 {x : Int32} (h : ¬ s_X12_in x 0 4 = 0) : vp_in x 5 := by
  by_cases h1 : x < 0
  · exact absurd (by unfold s_X12_in; have : ¬ (0 : Int32) ≤ x := Int32.not_le.mpr h1; simp [h1, this]) h
  · by_cases h2 : x < 5
    · exact zin (M := 5) (by decide) h1 h2
    · refine absurd ?_ h
      have h3 : (5 : Int32) ≤ x := Int32.not_lt.mp h2
      have h4 : ¬ x ≤ 4 := fun q => absurd (Int32.le_trans h3 q) (by decide)
      have h5 : (4 : Int32) < x := Int32.not_le.mp h4
      unfold s_X12_in
      simp [h4, h5]

def s_X12_status (p0 : Int32) : Int32 := (if (s_X12_in p0 0 4) = 0 then (-1) else 0)
set_option maxHeartbeats 4000000 in
set_option maxRecDepth 100000 in
theorem c_X12_status (l : Launch) (dC : Nat → ClassId) (dI : Nat → Nat → Nat) (cI cZ : ClassId) (sz : Nat) (h0 : Nat) (h1 : Nat) (d0 : Value) (d1 : Value) (d2 : Value) (d3 : Value) (d4 : Value) (d5 : Value) (d6 : Value) (d7 : Value) (d8 : Value) (d9 : Value) (d10 : Value) (d11 : Value) (d12 : Value) (d13 : Value) (d14 : Value) (d15 : Value) (d16 : Value) (d17 : Value) (d18 : Value) (d19 : Value) (d20 : Value) (d21 : Value) (d22 : Value) (d23 : Value) (d25 : Value) (d26 : Value) (d27 : Value) (d28 : Value) (d29 : Value) (d30 : Value) (d31 : Value) (d32 : Value) (d33 : Value) (d34 : Value) (d35 : Value) (d36 : Value) (d37 : Value) (d38 : Value) (d39 : Value) (d40 : Value) (d41 : Value) (d42 : Value) (d43 : Value) (d44 : Value) (d45 : Value) (d46 : Value) (d47 : Value) (d48 : Value) (d49 : Value) (d50 : Value) (d51 : Value) (d52 : Value) (d53 : Value) (d54 : Value) (d55 : Value) (p0 : Int32) : Met l yX12_status wsX12_status ({ frames := 1, cells := 0, slots := 0, locals := 22 }) (va_Pc [.ref h0, .int p0] (zPre dC dI cI cZ sz [(h0, .inr (12, [d0, d1, d2, d3, d4, d5, d6, d7, d8, d9, d10, d11, d12, d13, d14, d15, d16, d17, d18, d19, d20, d21, d22, d23, .ref h1, d25, d26, d27, d28, d29, d30, d31, d32, d33, d34, d35, d36, d37, d38, d39, d40, d41, d42, d43, d44, d45, d46, d47, d48, d49, d50, d51, d52, d53, d54, d55])), (h1, .inl (cI, 5, .inl (fun _ => 0)))])) (va_Qi (fun (r : Int32) (_ : Unit) => r = s_X12_status p0) (fun (_ : Unit) _ => True) (fun _ => False)) 0 0 (fun _ => False) := by
  refine Met.ofW (cc := cX12_status) (maxL := 2) (ret := (some .int)) (by decide) rfl ?_
  intro p e s m args below meth c s₁ B hml hv
  obtain ⟨rfl, hsz, hP, hK, hD0, hG⟩ := hv
  have hx := B.exec
  have hb := B.bytes
  have hr := B.returns
  have hts := atoms_spec (ws := wsX12_status) B.pre
  have hown : s.vm.findClass RX12 = some m.cls := findClass_of_methodNamed B.named
  have hlocks := B.notSynchronized
  have hinX12 : ∀ w ∈ wsX120, w ∈ wsX12_status := by decide +kernel
  subst hsz
  have hS : va_S (fun _ : Nat => False) s.heap s.heap [] := va_S.rf
  have hP : va_P (dC, dI) vwCl [(h0, .inr (12, [d0, d1, d2, d3, d4, d5, d6, d7, d8, d9, d10, d11, d12, d13, d14, d15, d16, d17, d18, d19, d20, d21, d22, d23, .ref h1, d25, d26, d27, d28, d29, d30, d31, d32, d33, d34, d35, d36, d37, d38, d39, d40, d41, d42, d43, d44, d45, d46, d47, d48, d49, d50, d51, d52, d53, d54, d55])), (h1, .inl (cI, 5, .inl (fun _ => 0)))] s.heap := hP
  have hl := lv_entry ([.ref h0, .int p0]) (n := 2) (Nat.le_of_ble_eq_true rfl)
  rw [lg_entry_eq]
  generalize (lg_sl ([.ref h0, .int p0]) ++ List.replicate (2 - (lg_sl ([.ref h0, .int p0])).length) Slot.unset).toArray = ls at hl ⊢
  have hl : lv_has ls 2 [(0, .ref h0), (1, .int p0)] := hl
  refine lv_iload_n hx hb dX12_status_0 rfl (lv_at hl 1 rfl) ?_
  refine lv_iconst (v := 0) hx hb dX12_status_1 (by decide) ?_
  refine lv_iconst (v := 4) hx hb dX12_status_2 (by decide) ?_
  have hPc : va_P (dC, dI) vwCl [] _ := zNoP (H := s.heap)
  have hDc : va_D (fun _ : Nat => True) [] := zNoD
  refine va_calli (va_runS (As := [.int p0, .int 0, .int 4]) (rest := []) ⟨hx, hb, hml, hown, hts⟩ (c_X12_in l dC dI cI cZ s.heap.size p0 0 4) (cwS 3 hts gX12_status_X12_in rfl rfl rfl (by decide +kernel) ⟨Nat.le_of_ble_eq_true rfl, Nat.le_of_ble_eq_true rfl⟩) (zPreS hPc hK hDc hG) rfl rfl hl.1 rfl (lv_room (Nat.le_of_ble_eq_true rfl)) dX12_status_3 ⟨Nat.le_of_ble_eq_true rfl, Nat.le_of_ble_eq_true rfl⟩) hS (fun _ _ h => h.elim) (fun _ h => h.elim) (fun r1 u9 t9 H1 locs ht9 hvm hwr1 hB9 hz1 hk1 hS => ?_)
  replace hP := zKept hP hk1
  try clear hB9 hz1 hk1 hvm ht9 u9 hPc hDc
  generalize H1 = H at hP hS ⊢
  obtain rfl : r1 = s_X12_in p0 0 4 := hwr1
  refine lv_if_eq (tgt := 18) hx hb dX12_status_6 (by decide) (fun c2 => ?_) (fun c2 => ?_)
  · skip
    refine lv_iconst (v := (-1)) hx hb dX12_status_18 (by decide) ?_
    exact W.iret (v := (-1)) hx hb hr (fun t ht hW => ⟨⟨(-1), (), rfl, (by unfold s_X12_status; rw [if_pos c2]), trivial⟩, hS.F ht⟩) hS.2.2 dX12_status_19
  · skip
    refine lv_aload_n hx hb dX12_status_9 rfl (lv_at hl 0 rfl) ?_
    refine va_get (D := (dC, dI)) (ci := 12) (v := .ref h1) (C := RX12) (T := TX12) (N := 56) hx hb hts hinX12 hown hK hP 0 rfl rfl 24 (by decide) (hts (.fieldLink RX12 55 "DreamGuardModel" "refused" "[I") (by decide +kernel)) (fun _ h9 => h9) rfl dX12_status_10 ?_
    refine lv_iload_n hx hb dX12_status_13 rfl (lv_at hl 1 rfl) ?_
    refine va_iald (i := p0) hx hb hK hP 1 0 rfl rfl (zin_in4 c2) dX12_status_14 ?_
    refine lv_topi (fun k3 ek3 => ?_)
    obtain rfl : k3 = 0 := ek3.trans rfl
    refine lv_goto (tgt := 19) hx hb dX12_status_15 (by decide) ?_
    exact W.iret (v := 0) hx hb hr (fun t ht hW => ⟨⟨0, (), rfl, (by unfold s_X12_status; rw [if_neg c2]), trivial⟩, hS.F ht⟩) hS.2.2 dX12_status_19

def s_X12_log : Int32 := (-1)
set_option maxHeartbeats 4000000 in
set_option maxRecDepth 100000 in
theorem c_X12_log (l : Launch) (dC : Nat → ClassId) (dI : Nat → Nat → Nat) (cI cZ : ClassId) (sz : Nat) (h0 : Nat) (h1 : Nat) (d0 : Value) (d1 : Value) (d2 : Value) (d3 : Value) (d4 : Value) (d5 : Value) (d6 : Value) (d7 : Value) (d8 : Value) (d9 : Value) (d10 : Value) (d11 : Value) (d12 : Value) (d13 : Value) (d14 : Value) (d15 : Value) (d16 : Value) (d17 : Value) (d18 : Value) (d19 : Value) (d20 : Value) (d21 : Value) (d22 : Value) (d24 : Value) (d25 : Value) (d26 : Value) (d27 : Value) (d28 : Value) (d29 : Value) (d30 : Value) (d31 : Value) (d32 : Value) (d33 : Value) (d34 : Value) (d35 : Value) (d36 : Value) (d37 : Value) (d38 : Value) (d39 : Value) (d40 : Value) (d41 : Value) (d42 : Value) (d43 : Value) (d44 : Value) (d45 : Value) (d46 : Value) (d47 : Value) (d48 : Value) (d49 : Value) (d50 : Value) (d51 : Value) (d52 : Value) (d53 : Value) (d54 : Value) (d55 : Value) (p0 : Int32) (p1 : Int32) : Met l yX12_log wsX12_log ({ frames := 1, cells := 0, slots := 0, locals := 22 }) (va_Pc [.ref h0, .int p0, .int p1] (zPre dC dI cI cZ sz [(h0, .inr (12, [d0, d1, d2, d3, d4, d5, d6, d7, d8, d9, d10, d11, d12, d13, d14, d15, d16, d17, d18, d19, d20, d21, d22, .ref h1, d24, d25, d26, d27, d28, d29, d30, d31, d32, d33, d34, d35, d36, d37, d38, d39, d40, d41, d42, d43, d44, d45, d46, d47, d48, d49, d50, d51, d52, d53, d54, d55])), (h1, .inl (cI, 220, .inl (fun _ => 0)))])) (va_Qi (fun (r : Int32) (_ : Unit) => r = s_X12_log) (fun (_ : Unit) _ => True) (fun _ => False)) 0 0 (fun _ => False) := by
  refine Met.ofW (cc := cX12_log) (maxL := 3) (ret := (some .int)) (by decide) rfl ?_
  intro p e s m args below meth c s₁ B hml hv
  obtain ⟨rfl, hsz, hP, hK, hD0, hG⟩ := hv
  have hx := B.exec
  have hb := B.bytes
  have hr := B.returns
  have hts := atoms_spec (ws := wsX12_log) B.pre
  have hown : s.vm.findClass RX12 = some m.cls := findClass_of_methodNamed B.named
  have hlocks := B.notSynchronized
  have hinX12 : ∀ w ∈ wsX120, w ∈ wsX12_log := by decide +kernel
  subst hsz
  have hS : va_S (fun _ : Nat => False) s.heap s.heap [] := va_S.rf
  have hP : va_P (dC, dI) vwCl [(h0, .inr (12, [d0, d1, d2, d3, d4, d5, d6, d7, d8, d9, d10, d11, d12, d13, d14, d15, d16, d17, d18, d19, d20, d21, d22, .ref h1, d24, d25, d26, d27, d28, d29, d30, d31, d32, d33, d34, d35, d36, d37, d38, d39, d40, d41, d42, d43, d44, d45, d46, d47, d48, d49, d50, d51, d52, d53, d54, d55])), (h1, .inl (cI, 220, .inl (fun _ => 0)))] s.heap := hP
  have hl := lv_entry ([.ref h0, .int p0, .int p1]) (n := 3) (Nat.le_of_ble_eq_true rfl)
  rw [lg_entry_eq]
  generalize (lg_sl ([.ref h0, .int p0, .int p1]) ++ List.replicate (3 - (lg_sl ([.ref h0, .int p0, .int p1])).length) Slot.unset).toArray = ls at hl ⊢
  have hl : lv_has ls 3 [(0, .ref h0), (1, .int p0), (2, .int p1)] := hl
  refine lv_iload_n hx hb dX12_log_0 rfl (lv_at hl 1 rfl) ?_
  refine lv_iconst (v := 0) hx hb dX12_log_1 (by decide) ?_
  refine lv_aload_n hx hb dX12_log_2 rfl (lv_at hl 0 rfl) ?_
  refine va_get (D := (dC, dI)) (ci := 12) (v := .ref h1) (C := RX12) (T := TX12) (N := 56) hx hb hts hinX12 hown hK hP 0 rfl rfl 23 (by decide) (hts (.fieldLink RX12 52 "DreamGuardModel" "now" "[I") (by decide +kernel)) (fun _ h9 => h9) rfl dX12_log_3 ?_
  refine lv_bipush (v := 39) hx hb dX12_log_6 (by decide) ?_
  refine va_iald (i := 39) hx hb hK hP 1 0 rfl rfl (show ¬ ((39 : Int32) < 0 ∨ 220 ≤ (39 : Int32).toNatClampNeg) by decide) dX12_log_8 ?_
  refine lv_topi (fun k1 ek1 => ?_)
  obtain rfl : k1 = 0 := ek1.trans rfl
  refine lv_iconst (v := 1) hx hb dX12_log_9 (by decide) ?_
  refine lv_isub hx hb dX12_log_10 ?_
  refine lv_topi (fun k2 ek2 => ?_)
  obtain rfl : k2 = (-1) := ek2.trans (by decide)
  have hPc : va_P (dC, dI) vwCl [] _ := zNoP (H := s.heap)
  have hDc : va_D (fun _ : Nat => True) [] := zNoD
  refine va_calli (va_runS (As := [.int p0, .int 0, .int (-1)]) (rest := []) ⟨hx, hb, hml, hown, hts⟩ (c_X12_in l dC dI cI cZ s.heap.size p0 0 (-1)) (cwS 3 hts gX12_log_X12_in rfl rfl rfl (by decide +kernel) ⟨Nat.le_of_ble_eq_true rfl, Nat.le_of_ble_eq_true rfl⟩) (zPreS hPc hK hDc hG) rfl rfl hl.1 rfl (lv_room (Nat.le_of_ble_eq_true rfl)) dX12_log_11 ⟨Nat.le_of_ble_eq_true rfl, Nat.le_of_ble_eq_true rfl⟩) hS (fun _ _ h => h.elim) (fun _ h => h.elim) (fun r3 u9 t9 H1 locs ht9 hvm hwr3 hB9 hz1 hk1 hS => ?_)
  replace hP := zKept hP hk1
  try clear hB9 hz1 hk1 hvm ht9 u9 hPc hDc
  generalize H1 = H at hP hS ⊢
  obtain rfl : r3 = 0 := hwr3.trans (zs_in0 p0)
  refine lv_if_eq (tgt := 52) hx hb dX12_log_14 (by decide) (fun _ => ?_) (fun c9 => absurd (by decide) c9)
  refine lv_iconst (v := (-1)) hx hb dX12_log_52 (by decide) ?_
  exact W.iret (v := (-1)) hx hb hr (fun t ht hW => ⟨⟨(-1), (), rfl, (by unfold s_X12_log; first | rfl | simp), trivial⟩, hS.F ht⟩) hS.2.2 dX12_log_53

def s_X12_count (p0 : Int32) : Int32 := (if p0 = 0 then 0 else (if p0 = 1 then 0 else (if p0 = 2 then 0 else (if p0 = 3 then (-1) else (if p0 = 4 then 0 else (if p0 = 5 then 0 else (if p0 = 6 then 0 else (if p0 = 7 then 0 else (if p0 = 8 then 0 else (if p0 = 9 then 0 else (if p0 = 10 then 0 else (if p0 = 11 then 0 else (-1000000)))))))))))))
set_option maxHeartbeats 4000000 in
set_option maxRecDepth 100000 in
theorem c_X12_count (l : Launch) (dC : Nat → ClassId) (dI : Nat → Nat → Nat) (cI cZ : ClassId) (sz : Nat) (h0 : Nat) (h1 : Nat) (d0 : Value) (d1 : Value) (d3 : Value) (d4 : Value) (d5 : Value) (d6 : Value) (d7 : Value) (d8 : Value) (d9 : Value) (d10 : Value) (d11 : Value) (d12 : Value) (d14 : Value) (d15 : Value) (d16 : Value) (d17 : Value) (d18 : Value) (d19 : Value) (d20 : Value) (d21 : Value) (d24 : Value) (d27 : Value) (d28 : Value) (d29 : Value) (d30 : Value) (d31 : Value) (d32 : Value) (d33 : Value) (d34 : Value) (d35 : Value) (d36 : Value) (d37 : Value) (d38 : Value) (d40 : Value) (d41 : Value) (d42 : Value) (d43 : Value) (d44 : Value) (d45 : Value) (d46 : Value) (d48 : Value) (d49 : Value) (d50 : Value) (d51 : Value) (d52 : Value) (d54 : Value) (d55 : Value) (p0 : Int32) : Met l yX12_count wsX12_count ({ frames := 1, cells := 0, slots := 0, locals := 23 }) (va_Pc [.ref h0, .int p0] (zPre dC dI cI cZ sz [(h0, .inr (12, [d0, d1, .int 0, d3, d4, d5, d6, d7, d8, d9, d10, d11, d12, .int 0, d14, d15, d16, d17, d18, d19, d20, d21, .int 0, .ref h1, d24, .int (-1), .int 0, d27, d28, d29, d30, d31, d32, d33, d34, d35, d36, d37, d38, .int 0, d40, d41, d42, d43, d44, d45, d46, .int 0, d48, d49, d50, d51, d52, .int 0, d54, d55])), (h1, .inl (cI, 220, .inl (fun _ => 0)))])) (va_Qi (fun (r : Int32) (_ : Unit) => r = s_X12_count p0) (fun (_ : Unit) _ => True) (fun _ => False)) 0 0 (fun _ => False) := by
  refine Met.ofW (cc := cX12_count) (maxL := 2) (ret := (some .int)) (by decide) rfl ?_
  intro p e s m args below meth c s₁ B hml hv
  obtain ⟨rfl, hsz, hP, hK, hD0, hG⟩ := hv
  have hx := B.exec
  have hb := B.bytes
  have hr := B.returns
  have hts := atoms_spec (ws := wsX12_count) B.pre
  have hown : s.vm.findClass RX12 = some m.cls := findClass_of_methodNamed B.named
  have hlocks := B.notSynchronized
  have hinX12 : ∀ w ∈ wsX120, w ∈ wsX12_count := by decide +kernel
  subst hsz
  have hS : va_S (fun _ : Nat => False) s.heap s.heap [] := va_S.rf
  have hP : va_P (dC, dI) vwCl [(h0, .inr (12, [d0, d1, .int 0, d3, d4, d5, d6, d7, d8, d9, d10, d11, d12, .int 0, d14, d15, d16, d17, d18, d19, d20, d21, .int 0, .ref h1, d24, .int (-1), .int 0, d27, d28, d29, d30, d31, d32, d33, d34, d35, d36, d37, d38, .int 0, d40, d41, d42, d43, d44, d45, d46, .int 0, d48, d49, d50, d51, d52, .int 0, d54, d55])), (h1, .inl (cI, 220, .inl (fun _ => 0)))] s.heap := hP
  have hl := lv_entry ([.ref h0, .int p0]) (n := 2) (Nat.le_of_ble_eq_true rfl)
  rw [lg_entry_eq]
  generalize (lg_sl ([.ref h0, .int p0]) ++ List.replicate (2 - (lg_sl ([.ref h0, .int p0])).length) Slot.unset).toArray = ls at hl ⊢
  have hl : lv_has ls 2 [(0, .ref h0), (1, .int p0)] := hl
  refine lv_iload_n hx hb dX12_count_0 rfl (lv_at hl 1 rfl) ?_
  by_cases c1 : p0 = 0
  · skip
    refine lv_tableIn (tgt := 64) (off := 63) hx hb dX12_count_1 (by rw [c1]; decide) (by rw [c1]; decide) (by rw [c1]; rfl) (by decide) ?_
    refine lv_aload_n hx hb dX12_count_64 rfl (lv_at hl 0 rfl) ?_
    refine va_get (D := (dC, dI)) (ci := 12) (v := .int 0) (C := RX12) (T := TX12) (N := 56) hx hb hts hinX12 hown hK hP 0 rfl rfl 22 (by decide) (hts (.fieldLink RX12 270 "DreamGuardModel" "men" "I") (by decide +kernel)) (fun _ h9 => h9) rfl dX12_count_65 ?_
    exact W.iret (v := 0) hx hb hr (fun t ht hW => ⟨⟨0, (), rfl, (by unfold s_X12_count; rw [if_pos c1]), trivial⟩, hS.F ht⟩) hS.2.2 dX12_count_68
  by_cases c2 : p0 = 1
  · skip
    refine lv_tableIn (tgt := 69) (off := 68) hx hb dX12_count_1 (by rw [c2]; decide) (by rw [c2]; decide) (by rw [c2]; rfl) (by decide) ?_
    refine lv_aload_n hx hb dX12_count_69 rfl (lv_at hl 0 rfl) ?_
    refine va_get (D := (dC, dI)) (ci := 12) (v := .int 0) (C := RX12) (T := TX12) (N := 56) hx hb hts hinX12 hown hK hP 0 rfl rfl 13 (by decide) (hts (.fieldLink RX12 295 "DreamGuardModel" "laws" "I") (by decide +kernel)) (fun _ h9 => h9) rfl dX12_count_70 ?_
    exact W.iret (v := 0) hx hb hr (fun t ht hW => ⟨⟨0, (), rfl, (by unfold s_X12_count; rw [if_neg c1, if_pos c2]), trivial⟩, hS.F ht⟩) hS.2.2 dX12_count_73
  by_cases c3 : p0 = 2
  · skip
    refine lv_tableIn (tgt := 74) (off := 73) hx hb dX12_count_1 (by rw [c3]; decide) (by rw [c3]; decide) (by rw [c3]; rfl) (by decide) ?_
    refine lv_aload_n hx hb dX12_count_74 rfl (lv_at hl 0 rfl) ?_
    refine va_get (D := (dC, dI)) (ci := 12) (v := .int 0) (C := RX12) (T := TX12) (N := 56) hx hb hts hinX12 hown hK hP 0 rfl rfl 2 (by decide) (hts (.fieldLink RX12 121 "DreamGuardModel" "size" "I") (by decide +kernel)) (fun _ h9 => h9) rfl dX12_count_75 ?_
    exact W.iret (v := 0) hx hb hr (fun t ht hW => ⟨⟨0, (), rfl, (by unfold s_X12_count; rw [if_neg c1, if_neg c2, if_pos c3]), trivial⟩, hS.F ht⟩) hS.2.2 dX12_count_78
  by_cases c4 : p0 = 3
  · skip
    refine lv_tableIn (tgt := 79) (off := 78) hx hb dX12_count_1 (by rw [c4]; decide) (by rw [c4]; decide) (by rw [c4]; rfl) (by decide) ?_
    refine lv_aload_n hx hb dX12_count_79 rfl (lv_at hl 0 rfl) ?_
    refine va_get (D := (dC, dI)) (ci := 12) (v := .int (-1)) (C := RX12) (T := TX12) (N := 56) hx hb hts hinX12 hown hK hP 0 rfl rfl 25 (by decide) (hts (.fieldLink RX12 58 "DreamGuardModel" "holding" "I") (by decide +kernel)) (fun _ h9 => h9) rfl dX12_count_80 ?_
    exact W.iret (v := (-1)) hx hb hr (fun t ht hW => ⟨⟨(-1), (), rfl, (by unfold s_X12_count; rw [if_neg c1, if_neg c2, if_neg c3, if_pos c4]), trivial⟩, hS.F ht⟩) hS.2.2 dX12_count_83
  by_cases c5 : p0 = 4
  · skip
    refine lv_tableIn (tgt := 84) (off := 83) hx hb dX12_count_1 (by rw [c5]; decide) (by rw [c5]; decide) (by rw [c5]; rfl) (by decide) ?_
    refine lv_aload_n hx hb dX12_count_84 rfl (lv_at hl 0 rfl) ?_
    refine va_get (D := (dC, dI)) (ci := 12) (v := .ref h1) (C := RX12) (T := TX12) (N := 56) hx hb hts hinX12 hown hK hP 0 rfl rfl 23 (by decide) (hts (.fieldLink RX12 52 "DreamGuardModel" "now" "[I") (by decide +kernel)) (fun _ h9 => h9) rfl dX12_count_85 ?_
    refine lv_bipush (v := 38) hx hb dX12_count_88 (by decide) ?_
    refine va_iald (i := 38) hx hb hK hP 1 0 rfl rfl (show ¬ ((38 : Int32) < 0 ∨ 220 ≤ (38 : Int32).toNatClampNeg) by decide) dX12_count_90 ?_
    refine lv_topi (fun k6 ek6 => ?_)
    obtain rfl : k6 = 0 := ek6.trans rfl
    exact W.iret (v := 0) hx hb hr (fun t ht hW => ⟨⟨0, (), rfl, (by unfold s_X12_count; rw [if_neg c1, if_neg c2, if_neg c3, if_neg c4, if_pos c5]), trivial⟩, hS.F ht⟩) hS.2.2 dX12_count_91
  by_cases c7 : p0 = 5
  · skip
    refine lv_tableIn (tgt := 92) (off := 91) hx hb dX12_count_1 (by rw [c7]; decide) (by rw [c7]; decide) (by rw [c7]; rfl) (by decide) ?_
    refine lv_aload_n hx hb dX12_count_92 rfl (lv_at hl 0 rfl) ?_
    refine lv_bipush (v := 18) hx hb dX12_count_93 (by decide) ?_
    have hPc := hP.sub (ws' := [(h0, .inr (12, [d0, d1, .int 0, d3, d4, d5, d6, d7, d8, d9, d10, d11, d12, .int 0, d14, d15, d16, d17, d18, d19, d20, d21, .int 0, .ref h1, d24, .int (-1), .int 0, d27, d28, d29, d30, d31, d32, d33, d34, d35, d36, d37, d38, .int 0, d40, d41, d42, d43, d44, d45, d46, .int 0, d48, d49, d50, d51, d52, .int 0, d54, d55]))]) [0] rfl
    have hDc := hD0.sub (ws' := [(h0, .inr (12, [d0, d1, .int 0, d3, d4, d5, d6, d7, d8, d9, d10, d11, d12, .int 0, d14, d15, d16, d17, d18, d19, d20, d21, .int 0, .ref h1, d24, .int (-1), .int 0, d27, d28, d29, d30, d31, d32, d33, d34, d35, d36, d37, d38, .int 0, d40, d41, d42, d43, d44, d45, d46, .int 0, d48, d49, d50, d51, d52, .int 0, d54, d55]))]) [0] (by decide) rfl
    refine va_calli (va_runV (As := [.int 18]) (rest := []) ⟨hx, hb, hml, hown, hts⟩ (c_X12_sumOf l dC dI cI cZ s.heap.size h0 d0 d1 (.int 0) d3 d4 d5 d6 d7 d8 d9 d10 d11 d12 (.int 0) d14 d15 d16 d17 d18 d19 d20 d21 (.ref h1) d24 (.int (-1)) (.int 0) d27 d28 d29 d30 d31 d32 d33 d34 d35 d36 d37 d38 (.int 0) d40 d41 d42 d43 d44 d45 d46 (.int 0) d48 d49 d50 d51 d52 (.int 0) d54 d55 18) (cwV 1 hts gX12_count_X12_sumOf rfl rfl rfl (by decide +kernel) ⟨Nat.le_of_ble_eq_true rfl, Nat.le_of_ble_eq_true rfl⟩) (zPreV hPc hK hDc hG (ci := 12) (q0 := 0) rfl rfl) rfl rfl hl.1 rfl (lv_room (Nat.le_of_ble_eq_true rfl)) dX12_count_95 ⟨Nat.le_of_ble_eq_true rfl, Nat.le_of_ble_eq_true rfl⟩) hS (fun _ _ h => h.elim) (fun _ h => h.elim) (fun r8 u9 t9 H1 locs ht9 hvm hwr8 hB9 hz1 hk1 hS => ?_)
    replace hP := zKept hP hk1
    try clear hB9 hz1 hk1 hvm ht9 u9 hPc hDc
    generalize H1 = H at hP hS ⊢
    obtain rfl : r8 = 0 := hwr8.trans rfl
    exact W.iret (v := 0) hx hb hr (fun t ht hW => ⟨⟨0, (), rfl, (by unfold s_X12_count; rw [if_neg c1, if_neg c2, if_neg c3, if_neg c4, if_neg c5, if_pos c7]), trivial⟩, hS.F ht⟩) hS.2.2 dX12_count_98
  by_cases c9 : p0 = 6
  · skip
    refine lv_tableIn (tgt := 99) (off := 98) hx hb dX12_count_1 (by rw [c9]; decide) (by rw [c9]; decide) (by rw [c9]; rfl) (by decide) ?_
    refine lv_aload_n hx hb dX12_count_99 rfl (lv_at hl 0 rfl) ?_
    refine lv_bipush (v := 24) hx hb dX12_count_100 (by decide) ?_
    have hPc := hP.sub (ws' := [(h0, .inr (12, [d0, d1, .int 0, d3, d4, d5, d6, d7, d8, d9, d10, d11, d12, .int 0, d14, d15, d16, d17, d18, d19, d20, d21, .int 0, .ref h1, d24, .int (-1), .int 0, d27, d28, d29, d30, d31, d32, d33, d34, d35, d36, d37, d38, .int 0, d40, d41, d42, d43, d44, d45, d46, .int 0, d48, d49, d50, d51, d52, .int 0, d54, d55]))]) [0] rfl
    have hDc := hD0.sub (ws' := [(h0, .inr (12, [d0, d1, .int 0, d3, d4, d5, d6, d7, d8, d9, d10, d11, d12, .int 0, d14, d15, d16, d17, d18, d19, d20, d21, .int 0, .ref h1, d24, .int (-1), .int 0, d27, d28, d29, d30, d31, d32, d33, d34, d35, d36, d37, d38, .int 0, d40, d41, d42, d43, d44, d45, d46, .int 0, d48, d49, d50, d51, d52, .int 0, d54, d55]))]) [0] (by decide) rfl
    refine va_calli (va_runV (As := [.int 24]) (rest := []) ⟨hx, hb, hml, hown, hts⟩ (c_X12_sumOf l dC dI cI cZ s.heap.size h0 d0 d1 (.int 0) d3 d4 d5 d6 d7 d8 d9 d10 d11 d12 (.int 0) d14 d15 d16 d17 d18 d19 d20 d21 (.ref h1) d24 (.int (-1)) (.int 0) d27 d28 d29 d30 d31 d32 d33 d34 d35 d36 d37 d38 (.int 0) d40 d41 d42 d43 d44 d45 d46 (.int 0) d48 d49 d50 d51 d52 (.int 0) d54 d55 24) (cwV 1 hts gX12_count_X12_sumOf rfl rfl rfl (by decide +kernel) ⟨Nat.le_of_ble_eq_true rfl, Nat.le_of_ble_eq_true rfl⟩) (zPreV hPc hK hDc hG (ci := 12) (q0 := 0) rfl rfl) rfl rfl hl.1 rfl (lv_room (Nat.le_of_ble_eq_true rfl)) dX12_count_102 ⟨Nat.le_of_ble_eq_true rfl, Nat.le_of_ble_eq_true rfl⟩) hS (fun _ _ h => h.elim) (fun _ h => h.elim) (fun r10 u9 t9 H1 locs ht9 hvm hwr10 hB9 hz1 hk1 hS => ?_)
    replace hP := zKept hP hk1
    try clear hB9 hz1 hk1 hvm ht9 u9 hPc hDc
    generalize H1 = H at hP hS ⊢
    obtain rfl : r10 = 0 := hwr10.trans rfl
    exact W.iret (v := 0) hx hb hr (fun t ht hW => ⟨⟨0, (), rfl, (by unfold s_X12_count; rw [if_neg c1, if_neg c2, if_neg c3, if_neg c4, if_neg c5, if_neg c7, if_pos c9]), trivial⟩, hS.F ht⟩) hS.2.2 dX12_count_105
  by_cases c11 : p0 = 7
  · skip
    refine lv_tableIn (tgt := 106) (off := 105) hx hb dX12_count_1 (by rw [c11]; decide) (by rw [c11]; decide) (by rw [c11]; rfl) (by decide) ?_
    refine lv_aload_n hx hb dX12_count_106 rfl (lv_at hl 0 rfl) ?_
    refine va_get (D := (dC, dI)) (ci := 12) (v := .int 0) (C := RX12) (T := TX12) (N := 56) hx hb hts hinX12 hown hK hP 0 rfl rfl 26 (by decide) (hts (.fieldLink RX12 363 "DreamGuardModel" "snowy" "I") (by decide +kernel)) (fun _ h9 => h9) rfl dX12_count_107 ?_
    exact W.iret (v := 0) hx hb hr (fun t ht hW => ⟨⟨0, (), rfl, (by unfold s_X12_count; rw [if_neg c1, if_neg c2, if_neg c3, if_neg c4, if_neg c5, if_neg c7, if_neg c9, if_pos c11]), trivial⟩, hS.F ht⟩) hS.2.2 dX12_count_110
  by_cases c12 : p0 = 8
  · skip
    refine lv_tableIn (tgt := 111) (off := 110) hx hb dX12_count_1 (by rw [c12]; decide) (by rw [c12]; decide) (by rw [c12]; rfl) (by decide) ?_
    refine lv_aload_n hx hb dX12_count_111 rfl (lv_at hl 0 rfl) ?_
    refine va_get (D := (dC, dI)) (ci := 12) (v := .int 0) (C := RX12) (T := TX12) (N := 56) hx hb hts hinX12 hown hK hP 0 rfl rfl 47 (by decide) (hts (.fieldLink RX12 279 "DreamGuardModel" "noted" "I") (by decide +kernel)) (fun _ h9 => h9) rfl dX12_count_112 ?_
    exact W.iret (v := 0) hx hb hr (fun t ht hW => ⟨⟨0, (), rfl, (by unfold s_X12_count; rw [if_neg c1, if_neg c2, if_neg c3, if_neg c4, if_neg c5, if_neg c7, if_neg c9, if_neg c11, if_pos c12]), trivial⟩, hS.F ht⟩) hS.2.2 dX12_count_115
  by_cases c13 : p0 = 9
  · skip
    refine lv_tableIn (tgt := 116) (off := 115) hx hb dX12_count_1 (by rw [c13]; decide) (by rw [c13]; decide) (by rw [c13]; rfl) (by decide) ?_
    refine lv_aload_n hx hb dX12_count_116 rfl (lv_at hl 0 rfl) ?_
    refine va_get (D := (dC, dI)) (ci := 12) (v := .int 0) (C := RX12) (T := TX12) (N := 56) hx hb hts hinX12 hown hK hP 0 rfl rfl 53 (by decide) (hts (.fieldLink RX12 282 "DreamGuardModel" "saids" "I") (by decide +kernel)) (fun _ h9 => h9) rfl dX12_count_117 ?_
    exact W.iret (v := 0) hx hb hr (fun t ht hW => ⟨⟨0, (), rfl, (by unfold s_X12_count; rw [if_neg c1, if_neg c2, if_neg c3, if_neg c4, if_neg c5, if_neg c7, if_neg c9, if_neg c11, if_neg c12, if_pos c13]), trivial⟩, hS.F ht⟩) hS.2.2 dX12_count_120
  by_cases c14 : p0 = 10
  · skip
    refine lv_tableIn (tgt := 121) (off := 120) hx hb dX12_count_1 (by rw [c14]; decide) (by rw [c14]; decide) (by rw [c14]; rfl) (by decide) ?_
    refine lv_aload_n hx hb dX12_count_121 rfl (lv_at hl 0 rfl) ?_
    refine va_get (D := (dC, dI)) (ci := 12) (v := .ref h1) (C := RX12) (T := TX12) (N := 56) hx hb hts hinX12 hown hK hP 0 rfl rfl 23 (by decide) (hts (.fieldLink RX12 52 "DreamGuardModel" "now" "[I") (by decide +kernel)) (fun _ h9 => h9) rfl dX12_count_122 ?_
    refine lv_bipush (v := 39) hx hb dX12_count_125 (by decide) ?_
    refine va_iald (i := 39) hx hb hK hP 1 0 rfl rfl (show ¬ ((39 : Int32) < 0 ∨ 220 ≤ (39 : Int32).toNatClampNeg) by decide) dX12_count_127 ?_
    refine lv_topi (fun k15 ek15 => ?_)
    obtain rfl : k15 = 0 := ek15.trans rfl
    exact W.iret (v := 0) hx hb hr (fun t ht hW => ⟨⟨0, (), rfl, (by unfold s_X12_count; rw [if_neg c1, if_neg c2, if_neg c3, if_neg c4, if_neg c5, if_neg c7, if_neg c9, if_neg c11, if_neg c12, if_neg c13, if_pos c14]), trivial⟩, hS.F ht⟩) hS.2.2 dX12_count_128
  by_cases c16 : p0 = 11
  · skip
    refine lv_tableIn (tgt := 129) (off := 128) hx hb dX12_count_1 (by rw [c16]; decide) (by rw [c16]; decide) (by rw [c16]; rfl) (by decide) ?_
    refine lv_aload_n hx hb dX12_count_129 rfl (lv_at hl 0 rfl) ?_
    refine va_get (D := (dC, dI)) (ci := 12) (v := .int 0) (C := RX12) (T := TX12) (N := 56) hx hb hts hinX12 hown hK hP 0 rfl rfl 39 (by decide) (hts (.fieldLink RX12 285 "DreamGuardModel" "acts" "I") (by decide +kernel)) (fun _ h9 => h9) rfl dX12_count_130 ?_
    exact W.iret (v := 0) hx hb hr (fun t ht hW => ⟨⟨0, (), rfl, (by unfold s_X12_count; rw [if_neg c1, if_neg c2, if_neg c3, if_neg c4, if_neg c5, if_neg c7, if_neg c9, if_neg c11, if_neg c12, if_neg c13, if_neg c14, if_pos c16]), trivial⟩, hS.F ht⟩) hS.2.2 dX12_count_133
  refine lv_tableOut (tgt := 134) hx hb dX12_count_1 (zSwOut12 c1 c2 c3 c4 c5 c7 c9 c11 c12 c13 c14 c16) (by decide) ?_
  refine lv_ldcw (own := RX12) (v := (-1000000)) hx hb hown (hts (.constant RX12 377 (-1000000)) (by decide +kernel)) dX12_count_134 ?_
  exact W.iret (v := (-1000000)) hx hb hr (fun t ht hW => ⟨⟨(-1000000), (), rfl, (by unfold s_X12_count; rw [if_neg c1, if_neg c2, if_neg c3, if_neg c4, if_neg c5, if_neg c7, if_neg c9, if_neg c11, if_neg c12, if_neg c13, if_neg c14, if_neg c16]), trivial⟩, hS.F ht⟩) hS.2.2 dX12_count_137

def s_X12_here : Int32 := (-1)
set_option maxHeartbeats 4000000 in
set_option maxRecDepth 100000 in
theorem c_X12_here (l : Launch) (dC : Nat → ClassId) (dI : Nat → Nat → Nat) (cI cZ : ClassId) (sz : Nat) (h0 : Nat) (d0 : Value) (d1 : Value) (d4 : Value) (d5 : Value) (d6 : Value) (d7 : Value) (d8 : Value) (d9 : Value) (d10 : Value) (d11 : Value) (d12 : Value) (d13 : Value) (d14 : Value) (d15 : Value) (d16 : Value) (d17 : Value) (d18 : Value) (d19 : Value) (d20 : Value) (d21 : Value) (d22 : Value) (d23 : Value) (d24 : Value) (d25 : Value) (d26 : Value) (d27 : Value) (d28 : Value) (d29 : Value) (d30 : Value) (d31 : Value) (d32 : Value) (d33 : Value) (d34 : Value) (d35 : Value) (d36 : Value) (d37 : Value) (d38 : Value) (d39 : Value) (d40 : Value) (d41 : Value) (d42 : Value) (d43 : Value) (d44 : Value) (d45 : Value) (d46 : Value) (d47 : Value) (d48 : Value) (d49 : Value) (d50 : Value) (d51 : Value) (d52 : Value) (d53 : Value) (d54 : Value) (d55 : Value) : Met l yX12_here wsX12_here ({ frames := 0, cells := 0, slots := 0, locals := 0 }) (va_Pc [.ref h0] (zPre dC dI cI cZ sz [(h0, .inr (12, [d0, d1, .int 0, .int 0, d4, d5, d6, d7, d8, d9, d10, d11, d12, d13, d14, d15, d16, d17, d18, d19, d20, d21, d22, d23, d24, d25, d26, d27, d28, d29, d30, d31, d32, d33, d34, d35, d36, d37, d38, d39, d40, d41, d42, d43, d44, d45, d46, d47, d48, d49, d50, d51, d52, d53, d54, d55]))])) (va_Qi (fun (r : Int32) (_ : Unit) => r = s_X12_here) (fun (_ : Unit) _ => True) (fun _ => False)) 0 0 (fun _ => False) := by
  refine Met.ofW (cc := cX12_here) (maxL := 1) (ret := (some .int)) (by decide) rfl ?_
  intro p e s m args below meth c s₁ B hml hv
  obtain ⟨rfl, hsz, hP, hK, hD0, hG⟩ := hv
  have hx := B.exec
  have hb := B.bytes
  have hr := B.returns
  have hts := atoms_spec (ws := wsX12_here) B.pre
  have hown : s.vm.findClass RX12 = some m.cls := findClass_of_methodNamed B.named
  have hlocks := B.notSynchronized
  have hinX12 : ∀ w ∈ wsX120, w ∈ wsX12_here := by decide +kernel
  subst hsz
  have hS : va_S (fun _ : Nat => False) s.heap s.heap [] := va_S.rf
  have hP : va_P (dC, dI) vwCl [(h0, .inr (12, [d0, d1, .int 0, .int 0, d4, d5, d6, d7, d8, d9, d10, d11, d12, d13, d14, d15, d16, d17, d18, d19, d20, d21, d22, d23, d24, d25, d26, d27, d28, d29, d30, d31, d32, d33, d34, d35, d36, d37, d38, d39, d40, d41, d42, d43, d44, d45, d46, d47, d48, d49, d50, d51, d52, d53, d54, d55]))] s.heap := hP
  have hl := lv_entry ([.ref h0]) (n := 1) (Nat.le_of_ble_eq_true rfl)
  rw [lg_entry_eq]
  generalize (lg_sl ([.ref h0]) ++ List.replicate (1 - (lg_sl ([.ref h0])).length) Slot.unset).toArray = ls at hl ⊢
  have hl : lv_has ls 1 [(0, .ref h0)] := hl
  refine lv_aload_n hx hb dX12_here_0 rfl (lv_at hl 0 rfl) ?_
  refine va_get (D := (dC, dI)) (ci := 12) (v := .int 0) (C := RX12) (T := TX12) (N := 56) hx hb hts hinX12 hown hK hP 0 rfl rfl 3 (by decide) (hts (.fieldLink RX12 124 "DreamGuardModel" "at" "I") (by decide +kernel)) (fun _ h9 => h9) rfl dX12_here_1 ?_
  refine lv_aload_n hx hb dX12_here_4 rfl (lv_at hl 0 rfl) ?_
  refine va_get (D := (dC, dI)) (ci := 12) (v := .int 0) (C := RX12) (T := TX12) (N := 56) hx hb hts hinX12 hown hK hP 0 rfl rfl 2 (by decide) (hts (.fieldLink RX12 121 "DreamGuardModel" "size" "I") (by decide +kernel)) (fun _ h9 => h9) rfl dX12_here_5 ?_
  refine lv_icmp_ge (tgt := 23) hx hb dX12_here_8 (by decide) (fun _ => ?_) (fun c9 => absurd (by decide) c9)
  refine lv_iconst (v := (-1)) hx hb dX12_here_23 (by decide) ?_
  exact W.iret (v := (-1)) hx hb hr (fun t ht hW => ⟨⟨(-1), (), rfl, (by unfold s_X12_here; first | rfl | simp), trivial⟩, hS.F ht⟩) hS.2.2 dX12_here_24

def s_X12_look : Int32 := (-1)
set_option maxHeartbeats 4000000 in
set_option maxRecDepth 100000 in
theorem c_X12_look (l : Launch) (dC : Nat → ClassId) (dI : Nat → Nat → Nat) (cI cZ : ClassId) (sz : Nat) (h0 : Nat) (d0 : Value) (d1 : Value) (d4 : Value) (d5 : Value) (d6 : Value) (d7 : Value) (d8 : Value) (d9 : Value) (d10 : Value) (d11 : Value) (d12 : Value) (d13 : Value) (d14 : Value) (d15 : Value) (d16 : Value) (d17 : Value) (d18 : Value) (d19 : Value) (d20 : Value) (d21 : Value) (d22 : Value) (d23 : Value) (d24 : Value) (d25 : Value) (d26 : Value) (d27 : Value) (d28 : Value) (d29 : Value) (d30 : Value) (d31 : Value) (d32 : Value) (d33 : Value) (d34 : Value) (d35 : Value) (d36 : Value) (d37 : Value) (d38 : Value) (d39 : Value) (d40 : Value) (d41 : Value) (d42 : Value) (d43 : Value) (d44 : Value) (d45 : Value) (d46 : Value) (d47 : Value) (d48 : Value) (d49 : Value) (d50 : Value) (d51 : Value) (d52 : Value) (d53 : Value) (d54 : Value) (d55 : Value) : Met l yX12_look wsX12_look ({ frames := 1, cells := 0, slots := 0, locals := 20 }) (va_Pc [.ref h0] (zPre dC dI cI cZ sz [(h0, .inr (12, [d0, d1, .int 0, .int 0, d4, d5, d6, d7, d8, d9, d10, d11, d12, d13, d14, d15, d16, d17, d18, d19, d20, d21, d22, d23, d24, d25, d26, d27, d28, d29, d30, d31, d32, d33, d34, d35, d36, d37, d38, d39, d40, d41, d42, d43, d44, d45, d46, d47, d48, d49, d50, d51, d52, d53, d54, d55]))])) (va_Qi (fun (r : Int32) (_ : Unit) => r = s_X12_look) (fun (_ : Unit) _ => True) (fun _ => False)) 0 0 (fun _ => False) := by
  refine Met.ofW (cc := cX12_look) (maxL := 1) (ret := (some .int)) (by decide) rfl ?_
  intro p e s m args below meth c s₁ B hml hv
  obtain ⟨rfl, hsz, hP, hK, hD0, hG⟩ := hv
  have hx := B.exec
  have hb := B.bytes
  have hr := B.returns
  have hts := atoms_spec (ws := wsX12_look) B.pre
  have hown : s.vm.findClass RX12 = some m.cls := findClass_of_methodNamed B.named
  have hlocks := B.notSynchronized
  subst hsz
  have hS : va_S (fun _ : Nat => False) s.heap s.heap [] := va_S.rf
  have hP : va_P (dC, dI) vwCl [(h0, .inr (12, [d0, d1, .int 0, .int 0, d4, d5, d6, d7, d8, d9, d10, d11, d12, d13, d14, d15, d16, d17, d18, d19, d20, d21, d22, d23, d24, d25, d26, d27, d28, d29, d30, d31, d32, d33, d34, d35, d36, d37, d38, d39, d40, d41, d42, d43, d44, d45, d46, d47, d48, d49, d50, d51, d52, d53, d54, d55]))] s.heap := hP
  have hl := lv_entry ([.ref h0]) (n := 1) (Nat.le_of_ble_eq_true rfl)
  rw [lg_entry_eq]
  generalize (lg_sl ([.ref h0]) ++ List.replicate (1 - (lg_sl ([.ref h0])).length) Slot.unset).toArray = ls at hl ⊢
  have hl : lv_has ls 1 [(0, .ref h0)] := hl
  refine lv_aload_n hx hb dX12_look_0 rfl (lv_at hl 0 rfl) ?_
  have hPc := hP.sub (ws' := [(h0, .inr (12, [d0, d1, .int 0, .int 0, d4, d5, d6, d7, d8, d9, d10, d11, d12, d13, d14, d15, d16, d17, d18, d19, d20, d21, d22, d23, d24, d25, d26, d27, d28, d29, d30, d31, d32, d33, d34, d35, d36, d37, d38, d39, d40, d41, d42, d43, d44, d45, d46, d47, d48, d49, d50, d51, d52, d53, d54, d55]))]) [0] rfl
  have hDc := hD0.sub (ws' := [(h0, .inr (12, [d0, d1, .int 0, .int 0, d4, d5, d6, d7, d8, d9, d10, d11, d12, d13, d14, d15, d16, d17, d18, d19, d20, d21, d22, d23, d24, d25, d26, d27, d28, d29, d30, d31, d32, d33, d34, d35, d36, d37, d38, d39, d40, d41, d42, d43, d44, d45, d46, d47, d48, d49, d50, d51, d52, d53, d54, d55]))]) [0] (by decide) rfl
  refine va_calli (va_runV (As := []) (rest := []) ⟨hx, hb, hml, hown, hts⟩ (c_X12_here l dC dI cI cZ s.heap.size h0 d0 d1 d4 d5 d6 d7 d8 d9 d10 d11 d12 d13 d14 d15 d16 d17 d18 d19 d20 d21 d22 d23 d24 d25 d26 d27 d28 d29 d30 d31 d32 d33 d34 d35 d36 d37 d38 d39 d40 d41 d42 d43 d44 d45 d46 d47 d48 d49 d50 d51 d52 d53 d54 d55) (cwV 0 hts gX12_look_X12_here rfl rfl rfl (by decide +kernel) ⟨Nat.le_of_ble_eq_true rfl, Nat.le_of_ble_eq_true rfl⟩) (zPreV hPc hK hDc hG (ci := 12) (q0 := 0) rfl rfl) rfl rfl hl.1 rfl (lv_room (Nat.le_of_ble_eq_true rfl)) dX12_look_1 ⟨Nat.le_of_ble_eq_true rfl, Nat.le_of_ble_eq_true rfl⟩) hS (fun _ _ h => h.elim) (fun _ h => h.elim) (fun r1 u9 t9 H1 locs ht9 hvm hwr1 hB9 hz1 hk1 hS => ?_)
  replace hP := zKept hP hk1
  try clear hB9 hz1 hk1 hvm ht9 u9 hPc hDc
  generalize H1 = H at hP hS ⊢
  obtain rfl : r1 = (-1) := hwr1.trans rfl
  refine lv_bipush (v := 32) hx hb dX12_look_4 (by decide) ?_
  refine lv_icmp_ne (tgt := 22) hx hb dX12_look_6 (by decide) (fun _ => ?_) (fun c9 => absurd c9 (by decide))
  refine lv_aload_n hx hb dX12_look_22 rfl (lv_at hl 0 rfl) ?_
  have hPc := hP.sub (ws' := [(h0, .inr (12, [d0, d1, .int 0, .int 0, d4, d5, d6, d7, d8, d9, d10, d11, d12, d13, d14, d15, d16, d17, d18, d19, d20, d21, d22, d23, d24, d25, d26, d27, d28, d29, d30, d31, d32, d33, d34, d35, d36, d37, d38, d39, d40, d41, d42, d43, d44, d45, d46, d47, d48, d49, d50, d51, d52, d53, d54, d55]))]) [0] rfl
  have hDc := hD0.sub (ws' := [(h0, .inr (12, [d0, d1, .int 0, .int 0, d4, d5, d6, d7, d8, d9, d10, d11, d12, d13, d14, d15, d16, d17, d18, d19, d20, d21, d22, d23, d24, d25, d26, d27, d28, d29, d30, d31, d32, d33, d34, d35, d36, d37, d38, d39, d40, d41, d42, d43, d44, d45, d46, d47, d48, d49, d50, d51, d52, d53, d54, d55]))]) [0] (by decide) rfl
  refine va_calli (va_runV (As := []) (rest := []) ⟨hx, hb, hml, hown, hts⟩ (c_X12_here l dC dI cI cZ H.size h0 d0 d1 d4 d5 d6 d7 d8 d9 d10 d11 d12 d13 d14 d15 d16 d17 d18 d19 d20 d21 d22 d23 d24 d25 d26 d27 d28 d29 d30 d31 d32 d33 d34 d35 d36 d37 d38 d39 d40 d41 d42 d43 d44 d45 d46 d47 d48 d49 d50 d51 d52 d53 d54 d55) (cwV 0 hts gX12_look_X12_here rfl rfl rfl (by decide +kernel) ⟨Nat.le_of_ble_eq_true rfl, Nat.le_of_ble_eq_true rfl⟩) (zPreV hPc hK hDc hG (ci := 12) (q0 := 0) rfl rfl) rfl rfl hl.1 rfl (lv_room (Nat.le_of_ble_eq_true rfl)) dX12_look_23 ⟨Nat.le_of_ble_eq_true rfl, Nat.le_of_ble_eq_true rfl⟩) hS (fun _ _ h => h.elim) (fun _ h => h.elim) (fun r2 u9 t9 H1 locs ht9 hvm hwr2 hB9 hz1 hk1 hS => ?_)
  replace hP := zKept hP hk1
  try clear hB9 hz1 hk1 hvm ht9 u9 hPc hDc
  generalize H1 = H at hP hS ⊢
  obtain rfl : r2 = (-1) := hwr2.trans rfl
  exact W.iret (v := (-1)) hx hb hr (fun t ht hW => ⟨⟨(-1), (), rfl, (by unfold s_X12_look; first | rfl | simp), trivial⟩, hS.F ht⟩) hS.2.2 dX12_look_26

set_option maxHeartbeats 4000000 in
set_option maxRecDepth 100000 in
theorem c_X12_bad (l : Launch) (dC : Nat → ClassId) (dI : Nat → Nat → Nat) (cI cZ : ClassId) (sz : Nat) (h0 : Nat) (d0 : Value) (d1 : Value) (d2 : Value) (d5 : Value) (d6 : Value) (d7 : Value) (d8 : Value) (d9 : Value) (d10 : Value) (d11 : Value) (d12 : Value) (d13 : Value) (d14 : Value) (d15 : Value) (d16 : Value) (d17 : Value) (d18 : Value) (d19 : Value) (d20 : Value) (d21 : Value) (d22 : Value) (d23 : Value) (d24 : Value) (d25 : Value) (d26 : Value) (d27 : Value) (d28 : Value) (d29 : Value) (d30 : Value) (d31 : Value) (d32 : Value) (d33 : Value) (d34 : Value) (d35 : Value) (d36 : Value) (d37 : Value) (d38 : Value) (d39 : Value) (d40 : Value) (d41 : Value) (d42 : Value) (d43 : Value) (d44 : Value) (d45 : Value) (d46 : Value) (d47 : Value) (d48 : Value) (d49 : Value) (d50 : Value) (d51 : Value) (d52 : Value) (d53 : Value) (d54 : Value) (d55 : Value) : Met l yX12_bad wsX12_bad ({ frames := 0, cells := 0, slots := 0, locals := 0 }) (va_Pc [.ref h0] (zPre dC dI cI cZ sz [(h0, .inr (12, [d0, d1, d2, .int 0, .int (-1), d5, d6, d7, d8, d9, d10, d11, d12, d13, d14, d15, d16, d17, d18, d19, d20, d21, d22, d23, d24, d25, d26, d27, d28, d29, d30, d31, d32, d33, d34, d35, d36, d37, d38, d39, d40, d41, d42, d43, d44, d45, d46, d47, d48, d49, d50, d51, d52, d53, d54, d55]))])) (va_Qv (fun (_ : Unit) => True) (fun (_ : Unit) t => (va_P (dC, dI) vwCl [(h0, .inr (12, [d0, d1, d2, .int 0, .int 0, d5, d6, d7, d8, d9, d10, d11, d12, d13, d14, d15, d16, d17, d18, d19, d20, d21, d22, d23, d24, d25, d26, d27, d28, d29, d30, d31, d32, d33, d34, d35, d36, d37, d38, d39, d40, d41, d42, d43, d44, d45, d46, d47, d48, d49, d50, d51, d52, d53, d54, d55]))] t.heap ∧ va_D (va_A [(h0, .inr (12, [d0, d1, d2, .int 0, .int (-1), d5, d6, d7, d8, d9, d10, d11, d12, d13, d14, d15, d16, d17, d18, d19, d20, d21, d22, d23, d24, d25, d26, d27, d28, d29, d30, d31, d32, d33, d34, d35, d36, d37, d38, d39, d40, d41, d42, d43, d44, d45, d46, d47, d48, d49, d50, d51, d52, d53, d54, d55]))] sz) [(h0, .inr (12, [d0, d1, d2, .int 0, .int 0, d5, d6, d7, d8, d9, d10, d11, d12, d13, d14, d15, d16, d17, d18, d19, d20, d21, d22, d23, d24, d25, d26, d27, d28, d29, d30, d31, d32, d33, d34, d35, d36, d37, d38, d39, d40, d41, d42, d43, d44, d45, d46, d47, d48, d49, d50, d51, d52, d53, d54, d55]))])) (va_A [(h0, .inr (12, [d0, d1, d2, .int 0, .int (-1), d5, d6, d7, d8, d9, d10, d11, d12, d13, d14, d15, d16, d17, d18, d19, d20, d21, d22, d23, d24, d25, d26, d27, d28, d29, d30, d31, d32, d33, d34, d35, d36, d37, d38, d39, d40, d41, d42, d43, d44, d45, d46, d47, d48, d49, d50, d51, d52, d53, d54, d55]))] sz)) 0 0 (va_A [(h0, .inr (12, [d0, d1, d2, .int 0, .int (-1), d5, d6, d7, d8, d9, d10, d11, d12, d13, d14, d15, d16, d17, d18, d19, d20, d21, d22, d23, d24, d25, d26, d27, d28, d29, d30, d31, d32, d33, d34, d35, d36, d37, d38, d39, d40, d41, d42, d43, d44, d45, d46, d47, d48, d49, d50, d51, d52, d53, d54, d55]))] sz) := by
  refine Met.ofW (cc := cX12_bad) (maxL := 1) (ret := none) (by decide) rfl ?_
  intro p e s m args below meth c s₁ B hml hv
  obtain ⟨rfl, hsz, hP, hK, hD0, hG⟩ := hv
  have hx := B.exec
  have hb := B.bytes
  have hr := B.returns
  have hts := atoms_spec (ws := wsX12_bad) B.pre
  have hown : s.vm.findClass RX12 = some m.cls := findClass_of_methodNamed B.named
  have hlocks := B.notSynchronized
  have hinX12 : ∀ w ∈ wsX120, w ∈ wsX12_bad := by decide +kernel
  subst hsz
  have hD := hD0.self (sz := s.heap.size)
  generalize hAe : va_A [(h0, .inr (12, [d0, d1, d2, .int 0, .int (-1), d5, d6, d7, d8, d9, d10, d11, d12, d13, d14, d15, d16, d17, d18, d19, d20, d21, d22, d23, d24, d25, d26, d27, d28, d29, d30, d31, d32, d33, d34, d35, d36, d37, d38, d39, d40, d41, d42, d43, d44, d45, d46, d47, d48, d49, d50, d51, d52, d53, d54, d55]))] s.heap.size = A at hD ⊢
  have hA : ∀ q : Nat, s.heap.size ≤ q → A q := fun q h => by rw [← hAe]; exact Or.inr h
  have hS : va_S A s.heap s.heap [] := va_S.rf
  have hP : va_P (dC, dI) vwCl [(h0, .inr (12, [d0, d1, d2, .int 0, .int (-1), d5, d6, d7, d8, d9, d10, d11, d12, d13, d14, d15, d16, d17, d18, d19, d20, d21, d22, d23, d24, d25, d26, d27, d28, d29, d30, d31, d32, d33, d34, d35, d36, d37, d38, d39, d40, d41, d42, d43, d44, d45, d46, d47, d48, d49, d50, d51, d52, d53, d54, d55]))] s.heap := hP
  have hl := lv_entry ([.ref h0]) (n := 1) (Nat.le_of_ble_eq_true rfl)
  rw [lg_entry_eq]
  generalize (lg_sl ([.ref h0]) ++ List.replicate (1 - (lg_sl ([.ref h0])).length) Slot.unset).toArray = ls at hl ⊢
  have hl : lv_has ls 1 [(0, .ref h0)] := hl
  refine lv_aload_n hx hb dX12_bad_0 rfl (lv_at hl 0 rfl) ?_
  refine lv_aload_n hx hb dX12_bad_1 rfl (lv_at hl 0 rfl) ?_
  refine va_get (D := (dC, dI)) (ci := 12) (v := .int (-1)) (C := RX12) (T := TX12) (N := 56) hx hb hts hinX12 hown hK hP 0 rfl rfl 4 (by decide) (hts (.fieldLink RX12 131 "DreamGuardModel" "wrong" "I") (by decide +kernel)) (fun _ h9 => h9) rfl dX12_bad_2 ?_
  refine lv_iconst (v := (-1)) hx hb dX12_bad_5 (by decide) ?_
  refine lv_icmp_ne (tgt := 16) hx hb dX12_bad_6 (by decide) (fun c9 => absurd (by decide) c9) (fun _ => ?_)
  refine lv_aload_n hx hb dX12_bad_9 rfl (lv_at hl 0 rfl) ?_
  refine va_get (D := (dC, dI)) (ci := 12) (v := .int 0) (C := RX12) (T := TX12) (N := 56) hx hb hts hinX12 hown hK hP 0 rfl rfl 3 (by decide) (hts (.fieldLink RX12 124 "DreamGuardModel" "at" "I") (by decide +kernel)) (fun _ h9 => h9) rfl dX12_bad_10 ?_
  refine lv_goto (tgt := 20) hx hb dX12_bad_13 (by decide) ?_
  refine va_put (D := (dC, dI)) (ci := 12) (v := .int 0) (ty := .int) (C := RX12) (T := TX12) (N := 56) hx hb hts hinX12 tyX12 tyX12_ok nmX12 hown hK hP hD hS 0 rfl rfl 4 (by decide) (hts (.fieldLink RX12 131 "DreamGuardModel" "wrong" "I") (by decide +kernel)) (fun _ h9 => h9) rfl (by decide +kernel) rfl rfl (Nat.le_of_ble_eq_true rfl) dX12_bad_20 (fun H locs hP hD hS => ?_)
  have hP : va_P (dC, dI) vwCl [(h0, .inr (12, [d0, d1, d2, .int 0, .int 0, d5, d6, d7, d8, d9, d10, d11, d12, d13, d14, d15, d16, d17, d18, d19, d20, d21, d22, d23, d24, d25, d26, d27, d28, d29, d30, d31, d32, d33, d34, d35, d36, d37, d38, d39, d40, d41, d42, d43, d44, d45, d46, d47, d48, d49, d50, d51, d52, d53, d54, d55]))] H := hP
  have hD : va_D A [(h0, .inr (12, [d0, d1, d2, .int 0, .int 0, d5, d6, d7, d8, d9, d10, d11, d12, d13, d14, d15, d16, d17, d18, d19, d20, d21, d22, d23, d24, d25, d26, d27, d28, d29, d30, d31, d32, d33, d34, d35, d36, d37, d38, d39, d40, d41, d42, d43, d44, d45, d46, d47, d48, d49, d50, d51, d52, d53, d54, d55]))] := hD
  have hP9 := hP.sub (ws' := [(h0, .inr (12, [d0, d1, d2, .int 0, .int 0, d5, d6, d7, d8, d9, d10, d11, d12, d13, d14, d15, d16, d17, d18, d19, d20, d21, d22, d23, d24, d25, d26, d27, d28, d29, d30, d31, d32, d33, d34, d35, d36, d37, d38, d39, d40, d41, d42, d43, d44, d45, d46, d47, d48, d49, d50, d51, d52, d53, d54, d55]))]) [0] rfl
  have hD9 := hD.sub (ws' := [(h0, .inr (12, [d0, d1, d2, .int 0, .int 0, d5, d6, d7, d8, d9, d10, d11, d12, d13, d14, d15, d16, d17, d18, d19, d20, d21, d22, d23, d24, d25, d26, d27, d28, d29, d30, d31, d32, d33, d34, d35, d36, d37, d38, d39, d40, d41, d42, d43, d44, d45, d46, d47, d48, d49, d50, d51, d52, d53, d54, d55]))]) [0] (by decide) rfl
  exact W.vret hx hb hr (fun t ht hW => ⟨⟨(), rfl, trivial, ⟨by rw [ht]; exact hP9, hD9⟩⟩, hS.F ht⟩) hS.2.2 dX12_bad_23

def s_X12_usual (p0 : Int32) (p1 : Int32) : Int32 := (if p0 = 115 then (if p1 = 0 then 8 else (if p1 = 1 then 7 else 20)) else (if p1 = 2 then 5 else (if p1 = 3 then 0 else 3)))
set_option maxHeartbeats 4000000 in
set_option maxRecDepth 100000 in
theorem c_X12_usual (l : Launch) (dC : Nat → ClassId) (dI : Nat → Nat → Nat) (cI cZ : ClassId) (sz : Nat) (p0 : Int32) (p1 : Int32) : Met l yX12_usual wsX12_usual ({ frames := 0, cells := 0, slots := 0, locals := 0 }) (va_Pc [.int p0, .int p1] (zPre dC dI cI cZ sz [])) (va_Qi (fun (r : Int32) (_ : Unit) => r = s_X12_usual p0 p1) (fun (_ : Unit) _ => True) (fun _ => False)) 0 0 (fun _ => False) := by
  refine Met.ofW (cc := cX12_usual) (maxL := 2) (ret := (some .int)) (by decide) rfl ?_
  intro p e s m args below meth c s₁ B hml hv
  obtain ⟨rfl, hsz, hP, hK, hD0, hG⟩ := hv
  have hx := B.exec
  have hb := B.bytes
  have hr := B.returns
  have hts := atoms_spec (ws := wsX12_usual) B.pre
  have hown : s.vm.findClass RX12 = some m.cls := findClass_of_methodNamed B.named
  have hlocks := B.notSynchronized
  subst hsz
  have hS : va_S (fun _ : Nat => False) s.heap s.heap [] := va_S.rf
  have hP : va_P (dC, dI) vwCl [] s.heap := hP
  have hl := lv_entry ([.int p0, .int p1]) (n := 2) (Nat.le_of_ble_eq_true rfl)
  rw [lg_entry_eq]
  generalize (lg_sl ([.int p0, .int p1]) ++ List.replicate (2 - (lg_sl ([.int p0, .int p1])).length) Slot.unset).toArray = ls at hl ⊢
  have hl : lv_has ls 2 [(0, .int p0), (1, .int p1)] := hl
  refine lv_iload_n hx hb dX12_usual_0 rfl (lv_at hl 0 rfl) ?_
  refine lv_bipush (v := 115) hx hb dX12_usual_1 (by decide) ?_
  refine lv_icmp_ne (tgt := 28) hx hb dX12_usual_3 (by decide) (fun c1 => ?_) (fun c1 => ?_)
  · skip
    refine lv_iload_n hx hb dX12_usual_28 rfl (lv_at hl 1 rfl) ?_
    refine lv_iconst (v := 2) hx hb dX12_usual_29 (by decide) ?_
    refine lv_icmp_ne (tgt := 37) hx hb dX12_usual_30 (by decide) (fun c2 => ?_) (fun c2 => ?_)
    · skip
      refine lv_iload_n hx hb dX12_usual_37 rfl (lv_at hl 1 rfl) ?_
      refine lv_iconst (v := 3) hx hb dX12_usual_38 (by decide) ?_
      refine lv_icmp_ne (tgt := 46) hx hb dX12_usual_39 (by decide) (fun c3 => ?_) (fun c3 => ?_)
      · skip
        refine lv_iconst (v := 3) hx hb dX12_usual_46 (by decide) ?_
        exact W.iret (v := 3) hx hb hr (fun t ht hW => ⟨⟨3, (), rfl, (by unfold s_X12_usual; rw [if_neg c1, if_neg c2, if_neg c3]), trivial⟩, hS.F ht⟩) hS.2.2 dX12_usual_47
      · skip
        refine lv_iconst (v := 0) hx hb dX12_usual_42 (by decide) ?_
        refine lv_goto (tgt := 47) hx hb dX12_usual_43 (by decide) ?_
        exact W.iret (v := 0) hx hb hr (fun t ht hW => ⟨⟨0, (), rfl, (by unfold s_X12_usual; rw [if_neg c1, if_neg c2, if_pos c3]), trivial⟩, hS.F ht⟩) hS.2.2 dX12_usual_47
    · skip
      refine lv_iconst (v := 5) hx hb dX12_usual_33 (by decide) ?_
      refine lv_goto (tgt := 47) hx hb dX12_usual_34 (by decide) ?_
      exact W.iret (v := 5) hx hb hr (fun t ht hW => ⟨⟨5, (), rfl, (by unfold s_X12_usual; rw [if_neg c1, if_pos c2]), trivial⟩, hS.F ht⟩) hS.2.2 dX12_usual_47
  · skip
    refine lv_iload_n hx hb dX12_usual_6 rfl (lv_at hl 1 rfl) ?_
    refine lv_if_ne (tgt := 15) hx hb dX12_usual_7 (by decide) (fun c4 => ?_) (fun c4 => ?_)
    · skip
      refine lv_iload_n hx hb dX12_usual_15 rfl (lv_at hl 1 rfl) ?_
      refine lv_iconst (v := 1) hx hb dX12_usual_16 (by decide) ?_
      refine lv_icmp_ne (tgt := 25) hx hb dX12_usual_17 (by decide) (fun c5 => ?_) (fun c5 => ?_)
      · skip
        refine lv_bipush (v := 20) hx hb dX12_usual_25 (by decide) ?_
        exact W.iret (v := 20) hx hb hr (fun t ht hW => ⟨⟨20, (), rfl, (by unfold s_X12_usual; rw [if_pos c1, if_neg c4, if_neg c5]), trivial⟩, hS.F ht⟩) hS.2.2 dX12_usual_27
      · skip
        refine lv_bipush (v := 7) hx hb dX12_usual_20 (by decide) ?_
        refine lv_goto (tgt := 27) hx hb dX12_usual_22 (by decide) ?_
        exact W.iret (v := 7) hx hb hr (fun t ht hW => ⟨⟨7, (), rfl, (by unfold s_X12_usual; rw [if_pos c1, if_neg c4, if_pos c5]), trivial⟩, hS.F ht⟩) hS.2.2 dX12_usual_27
    · skip
      refine lv_bipush (v := 8) hx hb dX12_usual_10 (by decide) ?_
      refine lv_goto (tgt := 27) hx hb dX12_usual_12 (by decide) ?_
      exact W.iret (v := 8) hx hb hr (fun t ht hW => ⟨⟨8, (), rfl, (by unfold s_X12_usual; rw [if_pos c1, if_pos c4]), trivial⟩, hS.F ht⟩) hS.2.2 dX12_usual_27

def s_X12_atEnd : Int32 := 0
set_option maxHeartbeats 4000000 in
set_option maxRecDepth 100000 in
theorem c_X12_atEnd (l : Launch) (dC : Nat → ClassId) (dI : Nat → Nat → Nat) (cI cZ : ClassId) (sz : Nat) (h0 : Nat) (d0 : Value) (d1 : Value) (d2 : Value) (d3 : Value) (d5 : Value) (d6 : Value) (d7 : Value) (d8 : Value) (d9 : Value) (d10 : Value) (d11 : Value) (d12 : Value) (d13 : Value) (d14 : Value) (d15 : Value) (d16 : Value) (d17 : Value) (d18 : Value) (d19 : Value) (d20 : Value) (d21 : Value) (d22 : Value) (d23 : Value) (d24 : Value) (d25 : Value) (d26 : Value) (d27 : Value) (d28 : Value) (d29 : Value) (d30 : Value) (d31 : Value) (d32 : Value) (d33 : Value) (d34 : Value) (d35 : Value) (d36 : Value) (d37 : Value) (d38 : Value) (d39 : Value) (d40 : Value) (d41 : Value) (d42 : Value) (d43 : Value) (d44 : Value) (d45 : Value) (d46 : Value) (d47 : Value) (d48 : Value) (d49 : Value) (d50 : Value) (d51 : Value) (d52 : Value) (d53 : Value) (d54 : Value) (d55 : Value) : Met l yX12_atEnd wsX12_atEnd ({ frames := 0, cells := 0, slots := 0, locals := 0 }) (va_Pc [.ref h0] (zPre dC dI cI cZ sz [(h0, .inr (12, [d0, d1, d2, d3, .int 0, d5, d6, d7, d8, d9, d10, d11, d12, d13, d14, d15, d16, d17, d18, d19, d20, d21, d22, d23, d24, d25, d26, d27, d28, d29, d30, d31, d32, d33, d34, d35, d36, d37, d38, d39, d40, d41, d42, d43, d44, d45, d46, d47, d48, d49, d50, d51, d52, d53, d54, d55]))])) (va_Qi (fun (r : Int32) (_ : Unit) => r = s_X12_atEnd) (fun (_ : Unit) _ => True) (fun _ => False)) 0 0 (fun _ => False) := by
  refine Met.ofW (cc := cX12_atEnd) (maxL := 1) (ret := (some .int)) (by decide) rfl ?_
  intro p e s m args below meth c s₁ B hml hv
  obtain ⟨rfl, hsz, hP, hK, hD0, hG⟩ := hv
  have hx := B.exec
  have hb := B.bytes
  have hr := B.returns
  have hts := atoms_spec (ws := wsX12_atEnd) B.pre
  have hown : s.vm.findClass RX12 = some m.cls := findClass_of_methodNamed B.named
  have hlocks := B.notSynchronized
  have hinX12 : ∀ w ∈ wsX120, w ∈ wsX12_atEnd := by decide +kernel
  subst hsz
  have hS : va_S (fun _ : Nat => False) s.heap s.heap [] := va_S.rf
  have hP : va_P (dC, dI) vwCl [(h0, .inr (12, [d0, d1, d2, d3, .int 0, d5, d6, d7, d8, d9, d10, d11, d12, d13, d14, d15, d16, d17, d18, d19, d20, d21, d22, d23, d24, d25, d26, d27, d28, d29, d30, d31, d32, d33, d34, d35, d36, d37, d38, d39, d40, d41, d42, d43, d44, d45, d46, d47, d48, d49, d50, d51, d52, d53, d54, d55]))] s.heap := hP
  have hl := lv_entry ([.ref h0]) (n := 1) (Nat.le_of_ble_eq_true rfl)
  rw [lg_entry_eq]
  generalize (lg_sl ([.ref h0]) ++ List.replicate (1 - (lg_sl ([.ref h0])).length) Slot.unset).toArray = ls at hl ⊢
  have hl : lv_has ls 1 [(0, .ref h0)] := hl
  refine lv_aload_n hx hb dX12_atEnd_0 rfl (lv_at hl 0 rfl) ?_
  refine va_get (D := (dC, dI)) (ci := 12) (v := .int 0) (C := RX12) (T := TX12) (N := 56) hx hb hts hinX12 hown hK hP 0 rfl rfl 4 (by decide) (hts (.fieldLink RX12 131 "DreamGuardModel" "wrong" "I") (by decide +kernel)) (fun _ h9 => h9) rfl dX12_atEnd_1 ?_
  refine lv_iconst (v := (-1)) hx hb dX12_atEnd_4 (by decide) ?_
  refine lv_icmp_ne (tgt := 20) hx hb dX12_atEnd_5 (by decide) (fun _ => ?_) (fun c9 => absurd c9 (by decide))
  refine lv_aload_n hx hb dX12_atEnd_20 rfl (lv_at hl 0 rfl) ?_
  refine va_get (D := (dC, dI)) (ci := 12) (v := .int 0) (C := RX12) (T := TX12) (N := 56) hx hb hts hinX12 hown hK hP 0 rfl rfl 4 (by decide) (hts (.fieldLink RX12 131 "DreamGuardModel" "wrong" "I") (by decide +kernel)) (fun _ h9 => h9) rfl dX12_atEnd_21 ?_
  exact W.iret (v := 0) hx hb hr (fun t ht hW => ⟨⟨0, (), rfl, (by unfold s_X12_atEnd; first | rfl | simp), trivial⟩, hS.F ht⟩) hS.2.2 dX12_atEnd_24

def s_X12_readFort : Int32 := 0
set_option maxHeartbeats 4000000 in
set_option maxRecDepth 100000 in
theorem c_X12_readFort (l : Launch) (dC : Nat → ClassId) (dI : Nat → Nat → Nat) (cI cZ : ClassId) (sz : Nat) (h0 : Nat) (h1 : Nat) (d0 : Value) (d1 : Value) (d3 : Value) (d4 : Value) (d5 : Value) (d6 : Value) (d7 : Value) (d8 : Value) (d9 : Value) (d10 : Value) (d11 : Value) (d12 : Value) (d13 : Value) (d14 : Value) (d15 : Value) (d16 : Value) (d18 : Value) (d19 : Value) (d20 : Value) (d21 : Value) (d22 : Value) (d23 : Value) (d24 : Value) (d25 : Value) (d26 : Value) (d27 : Value) (d28 : Value) (d29 : Value) (d30 : Value) (d31 : Value) (d32 : Value) (d33 : Value) (d34 : Value) (d35 : Value) (d36 : Value) (d37 : Value) (d38 : Value) (d39 : Value) (d40 : Value) (d41 : Value) (d42 : Value) (d43 : Value) (d44 : Value) (d45 : Value) (d46 : Value) (d47 : Value) (d48 : Value) (d49 : Value) (d50 : Value) (d51 : Value) (d52 : Value) (d53 : Value) (d54 : Value) (d55 : Value) : Met l yX12_readFort wsX12_readFort ({ frames := 2, cells := 0, slots := 0, locals := 40 }) (va_Pc [.ref h0] (zPre dC dI cI cZ sz [(h0, .inr (12, [d0, d1, .int 0, d3, d4, d5, d6, d7, d8, d9, d10, d11, d12, d13, d14, d15, d16, .ref h1, d18, d19, d20, d21, d22, d23, d24, d25, d26, d27, d28, d29, d30, d31, d32, d33, d34, d35, d36, d37, d38, d39, d40, d41, d42, d43, d44, d45, d46, d47, d48, d49, d50, d51, d52, d53, d54, d55])), (h1, .inl (cI, 3, .inl (fun _ => 0)))])) (va_Qi (fun (r : Int32) (_ : Unit) => r = s_X12_readFort) (fun (_ : Unit) _ => True) (va_A [(h0, .inr (12, [d0, d1, .int 0, d3, d4, d5, d6, d7, d8, d9, d10, d11, d12, d13, d14, d15, d16, .ref h1, d18, d19, d20, d21, d22, d23, d24, d25, d26, d27, d28, d29, d30, d31, d32, d33, d34, d35, d36, d37, d38, d39, d40, d41, d42, d43, d44, d45, d46, d47, d48, d49, d50, d51, d52, d53, d54, d55])), (h1, .inl (cI, 3, .inl (fun _ => 0)))] sz)) 0 0 (va_A [(h0, .inr (12, [d0, d1, .int 0, d3, d4, d5, d6, d7, d8, d9, d10, d11, d12, d13, d14, d15, d16, .ref h1, d18, d19, d20, d21, d22, d23, d24, d25, d26, d27, d28, d29, d30, d31, d32, d33, d34, d35, d36, d37, d38, d39, d40, d41, d42, d43, d44, d45, d46, d47, d48, d49, d50, d51, d52, d53, d54, d55])), (h1, .inl (cI, 3, .inl (fun _ => 0)))] sz) := by
  refine Met.ofW (cc := cX12_readFort) (maxL := 4) (ret := (some .int)) (by decide) rfl ?_
  intro p e s m args below meth c s₁ B hml hv
  obtain ⟨rfl, hsz, hP, hK, hD0, hG⟩ := hv
  have hx := B.exec
  have hb := B.bytes
  have hr := B.returns
  have hts := atoms_spec (ws := wsX12_readFort) B.pre
  have hown : s.vm.findClass RX12 = some m.cls := findClass_of_methodNamed B.named
  have hlocks := B.notSynchronized
  have hinX12 : ∀ w ∈ wsX120, w ∈ wsX12_readFort := by decide +kernel
  subst hsz
  have hD := hD0.self (sz := s.heap.size)
  generalize hAe : va_A [(h0, .inr (12, [d0, d1, .int 0, d3, d4, d5, d6, d7, d8, d9, d10, d11, d12, d13, d14, d15, d16, .ref h1, d18, d19, d20, d21, d22, d23, d24, d25, d26, d27, d28, d29, d30, d31, d32, d33, d34, d35, d36, d37, d38, d39, d40, d41, d42, d43, d44, d45, d46, d47, d48, d49, d50, d51, d52, d53, d54, d55])), (h1, .inl (cI, 3, .inl (fun _ => 0)))] s.heap.size = A at hD ⊢
  have hA : ∀ q : Nat, s.heap.size ≤ q → A q := fun q h => by rw [← hAe]; exact Or.inr h
  have hS : va_S A s.heap s.heap [] := va_S.rf
  have hP : va_P (dC, dI) vwCl [(h0, .inr (12, [d0, d1, .int 0, d3, d4, d5, d6, d7, d8, d9, d10, d11, d12, d13, d14, d15, d16, .ref h1, d18, d19, d20, d21, d22, d23, d24, d25, d26, d27, d28, d29, d30, d31, d32, d33, d34, d35, d36, d37, d38, d39, d40, d41, d42, d43, d44, d45, d46, d47, d48, d49, d50, d51, d52, d53, d54, d55])), (h1, .inl (cI, 3, .inl (fun _ => 0)))] s.heap := hP
  have hl := lv_entry ([.ref h0]) (n := 4) (Nat.le_of_ble_eq_true rfl)
  rw [lg_entry_eq]
  generalize (lg_sl ([.ref h0]) ++ List.replicate (4 - (lg_sl ([.ref h0])).length) Slot.unset).toArray = ls at hl ⊢
  have hl : lv_has ls 4 [(0, .ref h0)] := hl
  refine lv_aload_n hx hb dX12_readFort_0 rfl (lv_at hl 0 rfl) ?_
  refine lv_iconst (v := 0) hx hb dX12_readFort_1 (by decide) ?_
  refine va_put (D := (dC, dI)) (ci := 12) (v := .int 0) (ty := .int) (C := RX12) (T := TX12) (N := 56) hx hb hts hinX12 tyX12 tyX12_ok nmX12 hown hK hP hD hS 0 rfl rfl 3 (by decide) (hts (.fieldLink RX12 124 "DreamGuardModel" "at" "I") (by decide +kernel)) (fun _ h9 => h9) rfl (by decide +kernel) rfl rfl (Nat.le_of_ble_eq_true rfl) dX12_readFort_2 (fun H locs hP hD hS => ?_)
  have hP : va_P (dC, dI) vwCl [(h0, .inr (12, [d0, d1, .int 0, .int 0, d4, d5, d6, d7, d8, d9, d10, d11, d12, d13, d14, d15, d16, .ref h1, d18, d19, d20, d21, d22, d23, d24, d25, d26, d27, d28, d29, d30, d31, d32, d33, d34, d35, d36, d37, d38, d39, d40, d41, d42, d43, d44, d45, d46, d47, d48, d49, d50, d51, d52, d53, d54, d55])), (h1, .inl (cI, 3, .inl (fun _ => 0)))] H := hP
  have hD : va_D A [(h0, .inr (12, [d0, d1, .int 0, .int 0, d4, d5, d6, d7, d8, d9, d10, d11, d12, d13, d14, d15, d16, .ref h1, d18, d19, d20, d21, d22, d23, d24, d25, d26, d27, d28, d29, d30, d31, d32, d33, d34, d35, d36, d37, d38, d39, d40, d41, d42, d43, d44, d45, d46, d47, d48, d49, d50, d51, d52, d53, d54, d55])), (h1, .inl (cI, 3, .inl (fun _ => 0)))] := hD
  refine lv_aload_n hx hb dX12_readFort_5 rfl (lv_at hl 0 rfl) ?_
  refine lv_iconst (v := (-1)) hx hb dX12_readFort_6 (by decide) ?_
  refine va_put (D := (dC, dI)) (ci := 12) (v := .int (-1)) (ty := .int) (C := RX12) (T := TX12) (N := 56) hx hb hts hinX12 tyX12 tyX12_ok nmX12 hown hK hP hD hS 0 rfl rfl 4 (by decide) (hts (.fieldLink RX12 131 "DreamGuardModel" "wrong" "I") (by decide +kernel)) (fun _ h9 => h9) rfl (by decide +kernel) rfl rfl (Nat.le_of_ble_eq_true rfl) dX12_readFort_7 (fun H locs hP hD hS => ?_)
  have hP : va_P (dC, dI) vwCl [(h0, .inr (12, [d0, d1, .int 0, .int 0, .int (-1), d5, d6, d7, d8, d9, d10, d11, d12, d13, d14, d15, d16, .ref h1, d18, d19, d20, d21, d22, d23, d24, d25, d26, d27, d28, d29, d30, d31, d32, d33, d34, d35, d36, d37, d38, d39, d40, d41, d42, d43, d44, d45, d46, d47, d48, d49, d50, d51, d52, d53, d54, d55])), (h1, .inl (cI, 3, .inl (fun _ => 0)))] H := hP
  have hD : va_D A [(h0, .inr (12, [d0, d1, .int 0, .int 0, .int (-1), d5, d6, d7, d8, d9, d10, d11, d12, d13, d14, d15, d16, .ref h1, d18, d19, d20, d21, d22, d23, d24, d25, d26, d27, d28, d29, d30, d31, d32, d33, d34, d35, d36, d37, d38, d39, d40, d41, d42, d43, d44, d45, d46, d47, d48, d49, d50, d51, d52, d53, d54, d55])), (h1, .inl (cI, 3, .inl (fun _ => 0)))] := hD
  refine lv_aload_n hx hb dX12_readFort_10 rfl (lv_at hl 0 rfl) ?_
  refine lv_iconst (v := 0) hx hb dX12_readFort_11 (by decide) ?_
  refine va_put (D := (dC, dI)) (ci := 12) (v := .int 0) (ty := .int) (C := RX12) (T := TX12) (N := 56) hx hb hts hinX12 tyX12 tyX12_ok nmX12 hown hK hP hD hS 0 rfl rfl 19 (by decide) (hts (.fieldLink RX12 253 "DreamGuardModel" "readMen" "I") (by decide +kernel)) (fun _ h9 => h9) rfl (by decide +kernel) rfl rfl (Nat.le_of_ble_eq_true rfl) dX12_readFort_12 (fun H locs hP hD hS => ?_)
  have hP : va_P (dC, dI) vwCl [(h0, .inr (12, [d0, d1, .int 0, .int 0, .int (-1), d5, d6, d7, d8, d9, d10, d11, d12, d13, d14, d15, d16, .ref h1, d18, .int 0, d20, d21, d22, d23, d24, d25, d26, d27, d28, d29, d30, d31, d32, d33, d34, d35, d36, d37, d38, d39, d40, d41, d42, d43, d44, d45, d46, d47, d48, d49, d50, d51, d52, d53, d54, d55])), (h1, .inl (cI, 3, .inl (fun _ => 0)))] H := hP
  have hD : va_D A [(h0, .inr (12, [d0, d1, .int 0, .int 0, .int (-1), d5, d6, d7, d8, d9, d10, d11, d12, d13, d14, d15, d16, .ref h1, d18, .int 0, d20, d21, d22, d23, d24, d25, d26, d27, d28, d29, d30, d31, d32, d33, d34, d35, d36, d37, d38, d39, d40, d41, d42, d43, d44, d45, d46, d47, d48, d49, d50, d51, d52, d53, d54, d55])), (h1, .inl (cI, 3, .inl (fun _ => 0)))] := hD
  refine lv_iconst (v := 0) hx hb dX12_readFort_15 (by decide) ?_
  refine lv_istore_n (lv' := [(1, .int 0), (0, .ref h0)]) hx hb dX12_readFort_16 rfl hl (by decide) rfl (fun ls hl => ?_)
  refine lv_iconst (v := 0) hx hb dX12_readFort_17 (by decide) ?_
  refine lv_istore_n (lv' := [(2, .int 0), (1, .int 0), (0, .ref h0)]) hx hb dX12_readFort_18 rfl hl (by decide) rfl (fun ls hl => ?_)
  refine lv_iload_n hx hb dX12_readFort_19 rfl (lv_at hl 0 rfl) ?_
  refine lv_iconst (v := 3) hx hb dX12_readFort_20 (by decide) ?_
  refine lv_icmp_ge (tgt := 42) hx hb dX12_readFort_21 (by decide) (fun c9 => absurd c9 (by decide)) (fun _ => ?_)
  refine lv_aload_n hx hb dX12_readFort_24 rfl (lv_at hl 2 rfl) ?_
  refine va_get (D := (dC, dI)) (ci := 12) (v := .ref h1) (C := RX12) (T := TX12) (N := 56) hx hb hts hinX12 hown hK hP 0 rfl rfl 17 (by decide) (hts (.fieldLink RX12 40 "DreamGuardModel" "readRule" "[I") (by decide +kernel)) (fun _ h9 => h9) rfl dX12_readFort_25 ?_
  refine lv_iload_n hx hb dX12_readFort_28 rfl (lv_at hl 0 rfl) ?_
  refine lv_bipush (v := 115) hx hb dX12_readFort_29 (by decide) ?_
  refine lv_iload_n hx hb dX12_readFort_31 rfl (lv_at hl 0 rfl) ?_
  have hPc : va_P (dC, dI) vwCl [] _ := zNoP (H := H)
  have hDc : va_D (fun _ : Nat => True) [] := zNoD
  refine va_calli (va_runS (As := [.int 115, .int 0]) (rest := [.int 0, .ref h1]) ⟨hx, hb, hml, hown, hts⟩ (c_X12_usual l dC dI cI cZ H.size 115 0) (cwS 2 hts gX12_readFort_X12_usual rfl rfl rfl (by decide +kernel) ⟨Nat.le_of_ble_eq_true rfl, Nat.le_of_ble_eq_true rfl⟩) (zPreS hPc hK hDc hG) rfl rfl hl.1 rfl (lv_room (Nat.le_of_ble_eq_true rfl)) dX12_readFort_32 ⟨Nat.le_of_ble_eq_true rfl, Nat.le_of_ble_eq_true rfl⟩) hS (fun _ _ h => h.elim) (fun _ h => h.elim) (fun r1 u9 t9 H1 locs ht9 hvm hwr1 hB9 hz1 hk1 hS => ?_)
  replace hP := zKept hP hk1
  try clear hB9 hz1 hk1 hvm ht9 u9 hPc hDc
  generalize H1 = H at hP hS ⊢
  obtain rfl : r1 = s_X12_usual 115 0 := hwr1
  refine va_iast (i := 0) hx hb hK hP hD hS 1 0 rfl rfl (show ¬ ((0 : Int32) < 0 ∨ 3 ≤ (0 : Int32).toNatClampNeg) by decide) dX12_readFort_35 (fun H locs hP hD hS => ?_)
  generalize hff2 : upd (fun _ => 0) (0 : Int32).toNatClampNeg (s_X12_usual 115 0) = f2 at hP hD
  have hP : va_P (dC, dI) vwCl [(h0, .inr (12, [d0, d1, .int 0, .int 0, .int (-1), d5, d6, d7, d8, d9, d10, d11, d12, d13, d14, d15, d16, .ref h1, d18, .int 0, d20, d21, d22, d23, d24, d25, d26, d27, d28, d29, d30, d31, d32, d33, d34, d35, d36, d37, d38, d39, d40, d41, d42, d43, d44, d45, d46, d47, d48, d49, d50, d51, d52, d53, d54, d55])), (h1, .inl (cI, 3, .inl f2))] H := hP
  have hD : va_D A [(h0, .inr (12, [d0, d1, .int 0, .int 0, .int (-1), d5, d6, d7, d8, d9, d10, d11, d12, d13, d14, d15, d16, .ref h1, d18, .int 0, d20, d21, d22, d23, d24, d25, d26, d27, d28, d29, d30, d31, d32, d33, d34, d35, d36, d37, d38, d39, d40, d41, d42, d43, d44, d45, d46, d47, d48, d49, d50, d51, d52, d53, d54, d55])), (h1, .inl (cI, 3, .inl f2))] := hD
  refine lv_iinc (v := 1) (lv' := [(2, .int 1), (1, .int 0), (0, .ref h0)]) hx hb dX12_readFort_36 hl (k := 0) rfl (by decide) (by decide) rfl (fun ls hl => ?_)
  refine lv_goto (tgt := 19) hx hb dX12_readFort_39 (by decide) ?_
  refine lv_iload_n hx hb dX12_readFort_19 rfl (lv_at hl 0 rfl) ?_
  refine lv_iconst (v := 3) hx hb dX12_readFort_20 (by decide) ?_
  refine lv_icmp_ge (tgt := 42) hx hb dX12_readFort_21 (by decide) (fun c9 => absurd c9 (by decide)) (fun _ => ?_)
  refine lv_aload_n hx hb dX12_readFort_24 rfl (lv_at hl 2 rfl) ?_
  refine va_get (D := (dC, dI)) (ci := 12) (v := .ref h1) (C := RX12) (T := TX12) (N := 56) hx hb hts hinX12 hown hK hP 0 rfl rfl 17 (by decide) (hts (.fieldLink RX12 40 "DreamGuardModel" "readRule" "[I") (by decide +kernel)) (fun _ h9 => h9) rfl dX12_readFort_25 ?_
  refine lv_iload_n hx hb dX12_readFort_28 rfl (lv_at hl 0 rfl) ?_
  refine lv_bipush (v := 115) hx hb dX12_readFort_29 (by decide) ?_
  refine lv_iload_n hx hb dX12_readFort_31 rfl (lv_at hl 0 rfl) ?_
  have hPc : va_P (dC, dI) vwCl [] _ := zNoP (H := H)
  have hDc : va_D (fun _ : Nat => True) [] := zNoD
  refine va_calli (va_runS (As := [.int 115, .int 1]) (rest := [.int 1, .ref h1]) ⟨hx, hb, hml, hown, hts⟩ (c_X12_usual l dC dI cI cZ H.size 115 1) (cwS 2 hts gX12_readFort_X12_usual rfl rfl rfl (by decide +kernel) ⟨Nat.le_of_ble_eq_true rfl, Nat.le_of_ble_eq_true rfl⟩) (zPreS hPc hK hDc hG) rfl rfl hl.1 rfl (lv_room (Nat.le_of_ble_eq_true rfl)) dX12_readFort_32 ⟨Nat.le_of_ble_eq_true rfl, Nat.le_of_ble_eq_true rfl⟩) hS (fun _ _ h => h.elim) (fun _ h => h.elim) (fun r3 u9 t9 H1 locs ht9 hvm hwr3 hB9 hz1 hk1 hS => ?_)
  replace hP := zKept hP hk1
  try clear hB9 hz1 hk1 hvm ht9 u9 hPc hDc
  generalize H1 = H at hP hS ⊢
  obtain rfl : r3 = s_X12_usual 115 1 := hwr3
  refine va_iast (i := 1) hx hb hK hP hD hS 1 0 rfl rfl (show ¬ ((1 : Int32) < 0 ∨ 3 ≤ (1 : Int32).toNatClampNeg) by decide) dX12_readFort_35 (fun H locs hP hD hS => ?_)
  generalize hff4 : upd f2 (1 : Int32).toNatClampNeg (s_X12_usual 115 1) = f4 at hP hD
  have hP : va_P (dC, dI) vwCl [(h0, .inr (12, [d0, d1, .int 0, .int 0, .int (-1), d5, d6, d7, d8, d9, d10, d11, d12, d13, d14, d15, d16, .ref h1, d18, .int 0, d20, d21, d22, d23, d24, d25, d26, d27, d28, d29, d30, d31, d32, d33, d34, d35, d36, d37, d38, d39, d40, d41, d42, d43, d44, d45, d46, d47, d48, d49, d50, d51, d52, d53, d54, d55])), (h1, .inl (cI, 3, .inl f4))] H := hP
  have hD : va_D A [(h0, .inr (12, [d0, d1, .int 0, .int 0, .int (-1), d5, d6, d7, d8, d9, d10, d11, d12, d13, d14, d15, d16, .ref h1, d18, .int 0, d20, d21, d22, d23, d24, d25, d26, d27, d28, d29, d30, d31, d32, d33, d34, d35, d36, d37, d38, d39, d40, d41, d42, d43, d44, d45, d46, d47, d48, d49, d50, d51, d52, d53, d54, d55])), (h1, .inl (cI, 3, .inl f4))] := hD
  refine lv_iinc (v := 2) (lv' := [(2, .int 2), (1, .int 0), (0, .ref h0)]) hx hb dX12_readFort_36 hl (k := 0) rfl (by decide) (by decide) rfl (fun ls hl => ?_)
  refine lv_goto (tgt := 19) hx hb dX12_readFort_39 (by decide) ?_
  refine lv_iload_n hx hb dX12_readFort_19 rfl (lv_at hl 0 rfl) ?_
  refine lv_iconst (v := 3) hx hb dX12_readFort_20 (by decide) ?_
  refine lv_icmp_ge (tgt := 42) hx hb dX12_readFort_21 (by decide) (fun c9 => absurd c9 (by decide)) (fun _ => ?_)
  refine lv_aload_n hx hb dX12_readFort_24 rfl (lv_at hl 2 rfl) ?_
  refine va_get (D := (dC, dI)) (ci := 12) (v := .ref h1) (C := RX12) (T := TX12) (N := 56) hx hb hts hinX12 hown hK hP 0 rfl rfl 17 (by decide) (hts (.fieldLink RX12 40 "DreamGuardModel" "readRule" "[I") (by decide +kernel)) (fun _ h9 => h9) rfl dX12_readFort_25 ?_
  refine lv_iload_n hx hb dX12_readFort_28 rfl (lv_at hl 0 rfl) ?_
  refine lv_bipush (v := 115) hx hb dX12_readFort_29 (by decide) ?_
  refine lv_iload_n hx hb dX12_readFort_31 rfl (lv_at hl 0 rfl) ?_
  have hPc : va_P (dC, dI) vwCl [] _ := zNoP (H := H)
  have hDc : va_D (fun _ : Nat => True) [] := zNoD
  refine va_calli (va_runS (As := [.int 115, .int 2]) (rest := [.int 2, .ref h1]) ⟨hx, hb, hml, hown, hts⟩ (c_X12_usual l dC dI cI cZ H.size 115 2) (cwS 2 hts gX12_readFort_X12_usual rfl rfl rfl (by decide +kernel) ⟨Nat.le_of_ble_eq_true rfl, Nat.le_of_ble_eq_true rfl⟩) (zPreS hPc hK hDc hG) rfl rfl hl.1 rfl (lv_room (Nat.le_of_ble_eq_true rfl)) dX12_readFort_32 ⟨Nat.le_of_ble_eq_true rfl, Nat.le_of_ble_eq_true rfl⟩) hS (fun _ _ h => h.elim) (fun _ h => h.elim) (fun r5 u9 t9 H1 locs ht9 hvm hwr5 hB9 hz1 hk1 hS => ?_)
  replace hP := zKept hP hk1
  try clear hB9 hz1 hk1 hvm ht9 u9 hPc hDc
  generalize H1 = H at hP hS ⊢
  obtain rfl : r5 = s_X12_usual 115 2 := hwr5
  refine va_iast (i := 2) hx hb hK hP hD hS 1 0 rfl rfl (show ¬ ((2 : Int32) < 0 ∨ 3 ≤ (2 : Int32).toNatClampNeg) by decide) dX12_readFort_35 (fun H locs hP hD hS => ?_)
  generalize hff6 : upd f4 (2 : Int32).toNatClampNeg (s_X12_usual 115 2) = f6 at hP hD
  have hP : va_P (dC, dI) vwCl [(h0, .inr (12, [d0, d1, .int 0, .int 0, .int (-1), d5, d6, d7, d8, d9, d10, d11, d12, d13, d14, d15, d16, .ref h1, d18, .int 0, d20, d21, d22, d23, d24, d25, d26, d27, d28, d29, d30, d31, d32, d33, d34, d35, d36, d37, d38, d39, d40, d41, d42, d43, d44, d45, d46, d47, d48, d49, d50, d51, d52, d53, d54, d55])), (h1, .inl (cI, 3, .inl f6))] H := hP
  have hD : va_D A [(h0, .inr (12, [d0, d1, .int 0, .int 0, .int (-1), d5, d6, d7, d8, d9, d10, d11, d12, d13, d14, d15, d16, .ref h1, d18, .int 0, d20, d21, d22, d23, d24, d25, d26, d27, d28, d29, d30, d31, d32, d33, d34, d35, d36, d37, d38, d39, d40, d41, d42, d43, d44, d45, d46, d47, d48, d49, d50, d51, d52, d53, d54, d55])), (h1, .inl (cI, 3, .inl f6))] := hD
  refine lv_iinc (v := 3) (lv' := [(2, .int 3), (1, .int 0), (0, .ref h0)]) hx hb dX12_readFort_36 hl (k := 0) rfl (by decide) (by decide) rfl (fun ls hl => ?_)
  refine lv_goto (tgt := 19) hx hb dX12_readFort_39 (by decide) ?_
  refine lv_iload_n hx hb dX12_readFort_19 rfl (lv_at hl 0 rfl) ?_
  refine lv_iconst (v := 3) hx hb dX12_readFort_20 (by decide) ?_
  refine lv_icmp_ge (tgt := 42) hx hb dX12_readFort_21 (by decide) (fun _ => ?_) (fun c9 => absurd (by decide) c9)
  refine lv_iconst (v := 1) hx hb dX12_readFort_42 (by decide) ?_
  refine lv_istore_n (lv' := [(2, .int 1), (1, .int 0), (0, .ref h0)]) hx hb dX12_readFort_43 rfl hl (by decide) rfl (fun ls hl => ?_)
  refine lv_iload_n hx hb dX12_readFort_44 rfl (lv_at hl 0 rfl) ?_
  refine lv_if_eq (tgt := 199) hx hb dX12_readFort_45 (by decide) (fun c9 => absurd c9 (by decide)) (fun _ => ?_)
  refine lv_aload_n hx hb dX12_readFort_48 rfl (lv_at hl 2 rfl) ?_
  refine va_get (D := (dC, dI)) (ci := 12) (v := .int (-1)) (C := RX12) (T := TX12) (N := 56) hx hb hts hinX12 hown hK hP 0 rfl rfl 4 (by decide) (hts (.fieldLink RX12 131 "DreamGuardModel" "wrong" "I") (by decide +kernel)) (fun _ h9 => h9) rfl dX12_readFort_49 ?_
  refine lv_iconst (v := (-1)) hx hb dX12_readFort_52 (by decide) ?_
  refine lv_icmp_ne (tgt := 199) hx hb dX12_readFort_53 (by decide) (fun c9 => absurd (by decide) c9) (fun _ => ?_)
  refine lv_aload_n hx hb dX12_readFort_56 rfl (lv_at hl 2 rfl) ?_
  have hPc := hP.sub (ws' := [(h0, .inr (12, [d0, d1, .int 0, .int 0, .int (-1), d5, d6, d7, d8, d9, d10, d11, d12, d13, d14, d15, d16, .ref h1, d18, .int 0, d20, d21, d22, d23, d24, d25, d26, d27, d28, d29, d30, d31, d32, d33, d34, d35, d36, d37, d38, d39, d40, d41, d42, d43, d44, d45, d46, d47, d48, d49, d50, d51, d52, d53, d54, d55]))]) [0] rfl
  have hDc := hD.sub (ws' := [(h0, .inr (12, [d0, d1, .int 0, .int 0, .int (-1), d5, d6, d7, d8, d9, d10, d11, d12, d13, d14, d15, d16, .ref h1, d18, .int 0, d20, d21, d22, d23, d24, d25, d26, d27, d28, d29, d30, d31, d32, d33, d34, d35, d36, d37, d38, d39, d40, d41, d42, d43, d44, d45, d46, d47, d48, d49, d50, d51, d52, d53, d54, d55]))]) [0] (by decide) rfl
  refine va_calli (va_runV (As := []) (rest := []) ⟨hx, hb, hml, hown, hts⟩ (c_X12_look l dC dI cI cZ H.size h0 d0 d1 (.int (-1)) d5 d6 d7 d8 d9 d10 d11 d12 d13 d14 d15 d16 (.ref h1) d18 (.int 0) d20 d21 d22 d23 d24 d25 d26 d27 d28 d29 d30 d31 d32 d33 d34 d35 d36 d37 d38 d39 d40 d41 d42 d43 d44 d45 d46 d47 d48 d49 d50 d51 d52 d53 d54 d55) (cwV 0 hts gX12_readFort_X12_look rfl rfl rfl (by decide +kernel) ⟨Nat.le_of_ble_eq_true rfl, Nat.le_of_ble_eq_true rfl⟩) (zPreV hPc hK hDc hG (ci := 12) (q0 := 0) rfl rfl) rfl rfl hl.1 rfl (lv_room (Nat.le_of_ble_eq_true rfl)) dX12_readFort_57 ⟨Nat.le_of_ble_eq_true rfl, Nat.le_of_ble_eq_true rfl⟩) hS (fun _ _ h => h.elim) (fun _ h => h.elim) (fun r7 u9 t9 H1 locs ht9 hvm hwr7 hB9 hz1 hk1 hS => ?_)
  replace hP := zKept hP hk1
  try clear hB9 hz1 hk1 hvm ht9 u9 hPc hDc
  generalize H1 = H at hP hS ⊢
  obtain rfl : r7 = (-1) := hwr7.trans rfl
  refine lv_istore_n (lv' := [(3, .int (-1)), (2, .int 1), (1, .int 0), (0, .ref h0)]) hx hb dX12_readFort_60 rfl hl (by decide) rfl (fun ls hl => ?_)
  refine lv_iload_n hx hb dX12_readFort_61 rfl (lv_at hl 0 rfl) ?_
  refine lv_bipush (v := 115) hx hb dX12_readFort_62 (by decide) ?_
  refine lv_icmp_ne (tgt := 97) hx hb dX12_readFort_64 (by decide) (fun _ => ?_) (fun c9 => absurd c9 (by decide))
  refine lv_iload_n hx hb dX12_readFort_97 rfl (lv_at hl 0 rfl) ?_
  refine lv_bipush (v := 109) hx hb dX12_readFort_98 (by decide) ?_
  refine lv_icmp_ne (tgt := 151) hx hb dX12_readFort_100 (by decide) (fun _ => ?_) (fun c9 => absurd c9 (by decide))
  refine lv_aload_n hx hb dX12_readFort_151 rfl (lv_at hl 3 rfl) ?_
  have hPc := hP.sub (ws' := [(h0, .inr (12, [d0, d1, .int 0, .int 0, .int (-1), d5, d6, d7, d8, d9, d10, d11, d12, d13, d14, d15, d16, .ref h1, d18, .int 0, d20, d21, d22, d23, d24, d25, d26, d27, d28, d29, d30, d31, d32, d33, d34, d35, d36, d37, d38, d39, d40, d41, d42, d43, d44, d45, d46, d47, d48, d49, d50, d51, d52, d53, d54, d55]))]) [0] rfl
  have hDc := hD.sub (ws' := [(h0, .inr (12, [d0, d1, .int 0, .int 0, .int (-1), d5, d6, d7, d8, d9, d10, d11, d12, d13, d14, d15, d16, .ref h1, d18, .int 0, d20, d21, d22, d23, d24, d25, d26, d27, d28, d29, d30, d31, d32, d33, d34, d35, d36, d37, d38, d39, d40, d41, d42, d43, d44, d45, d46, d47, d48, d49, d50, d51, d52, d53, d54, d55]))]) [0] (by decide) rfl
  have hFc := va_free (wc := [(h0, .inr (12, [d0, d1, .int 0, .int 0, .int (-1), d5, d6, d7, d8, d9, d10, d11, d12, d13, d14, d15, d16, .ref h1, d18, .int 0, d20, d21, d22, d23, d24, d25, d26, d27, d28, d29, d30, d31, d32, d33, d34, d35, d36, d37, d38, d39, d40, d41, d42, d43, d44, d45, d46, d47, d48, d49, d50, d51, d52, d53, d54, d55]))]) hD hS hA [0] rfl
  refine va_callv (va_runV (As := []) (rest := []) ⟨hx, hb, hml, hown, hts⟩ (c_X12_bad l dC dI cI cZ H.size h0 d0 d1 (.int 0) d5 d6 d7 d8 d9 d10 d11 d12 d13 d14 d15 d16 (.ref h1) d18 (.int 0) d20 d21 d22 d23 d24 d25 d26 d27 d28 d29 d30 d31 d32 d33 d34 d35 d36 d37 d38 d39 d40 d41 d42 d43 d44 d45 d46 d47 d48 d49 d50 d51 d52 d53 d54 d55) (cwV 0 hts gX12_readFort_X12_bad rfl rfl rfl (by decide +kernel) ⟨Nat.le_of_ble_eq_true rfl, Nat.le_of_ble_eq_true rfl⟩) (zPreV hPc hK hDc hG (ci := 12) (q0 := 0) rfl rfl) rfl rfl hl.1 rfl (lv_room (Nat.le_of_ble_eq_true rfl)) dX12_readFort_152 ⟨Nat.le_of_ble_eq_true rfl, Nat.le_of_ble_eq_true rfl⟩) hS (fun q _ h => hFc q h) hFc (fun u9 t9 H1 locs ht9 hvm hwr8 hB9 hz1 hk1 hS => ?_)
  obtain ⟨hP1, hD1⟩ := hB9
  rw [ht9] at hP1
  obtain ⟨hP, hD⟩ := va_join (wr := [(h1, .inl (cI, 3, .inl f6))]) (w1 := [(h0, .inr (12, [d0, d1, .int 0, .int 0, .int 0, d5, d6, d7, d8, d9, d10, d11, d12, d13, d14, d15, d16, .ref h1, d18, .int 0, d20, d21, d22, d23, d24, d25, d26, d27, d28, d29, d30, d31, d32, d33, d34, d35, d36, d37, d38, d39, d40, d41, d42, d43, d44, d45, d46, d47, d48, d49, d50, d51, d52, d53, d54, d55]))]) hP hD [0] [1] rfl rfl (by decide) (by decide) hk1 hFc hP1 hD1
  try clear hz1 hk1 hvm ht9 u9 hPc hDc hFc hP1 hD1
  generalize H1 = H at hP hS ⊢
  have hP : va_P (dC, dI) vwCl [(h1, .inl (cI, 3, .inl f6)), (h0, .inr (12, [d0, d1, .int 0, .int 0, .int 0, d5, d6, d7, d8, d9, d10, d11, d12, d13, d14, d15, d16, .ref h1, d18, .int 0, d20, d21, d22, d23, d24, d25, d26, d27, d28, d29, d30, d31, d32, d33, d34, d35, d36, d37, d38, d39, d40, d41, d42, d43, d44, d45, d46, d47, d48, d49, d50, d51, d52, d53, d54, d55]))] H := hP
  have hD : va_D A [(h1, .inl (cI, 3, .inl f6)), (h0, .inr (12, [d0, d1, .int 0, .int 0, .int 0, d5, d6, d7, d8, d9, d10, d11, d12, d13, d14, d15, d16, .ref h1, d18, .int 0, d20, d21, d22, d23, d24, d25, d26, d27, d28, d29, d30, d31, d32, d33, d34, d35, d36, d37, d38, d39, d40, d41, d42, d43, d44, d45, d46, d47, d48, d49, d50, d51, d52, d53, d54, d55]))] := hD
  refine lv_aload_n hx hb dX12_readFort_155 rfl (lv_at hl 3 rfl) ?_
  refine va_get (D := (dC, dI)) (ci := 12) (v := .int 0) (C := RX12) (T := TX12) (N := 56) hx hb hts hinX12 hown hK hP 1 rfl rfl 4 (by decide) (hts (.fieldLink RX12 131 "DreamGuardModel" "wrong" "I") (by decide +kernel)) (fun _ h9 => h9) rfl dX12_readFort_156 ?_
  refine lv_iconst (v := (-1)) hx hb dX12_readFort_159 (by decide) ?_
  refine lv_icmp_ne (tgt := 176) hx hb dX12_readFort_160 (by decide) (fun _ => ?_) (fun c9 => absurd c9 (by decide))
  refine lv_iconst (v := 0) hx hb dX12_readFort_176 (by decide) ?_
  refine lv_istore_n (lv' := [(2, .int 0), (3, .int (-1)), (1, .int 0), (0, .ref h0)]) hx hb dX12_readFort_177 rfl hl (by decide) rfl (fun ls hl => ?_)
  refine lv_aload_n hx hb dX12_readFort_178 rfl (lv_at hl 3 rfl) ?_
  refine lv_dup hx hb dX12_readFort_179 rfl ?_
  refine va_get (D := (dC, dI)) (ci := 12) (v := .int 0) (C := RX12) (T := TX12) (N := 56) hx hb hts hinX12 hown hK hP 1 rfl rfl 3 (by decide) (hts (.fieldLink RX12 124 "DreamGuardModel" "at" "I") (by decide +kernel)) (fun _ h9 => h9) rfl dX12_readFort_180 ?_
  refine lv_iload_n hx hb dX12_readFort_183 rfl (lv_at hl 0 rfl) ?_
  refine lv_if_eq (tgt := 191) hx hb dX12_readFort_184 (by decide) (fun _ => ?_) (fun c9 => absurd (by decide) c9)
  refine lv_iconst (v := 0) hx hb dX12_readFort_191 (by decide) ?_
  refine lv_iadd hx hb dX12_readFort_192 ?_
  refine lv_topi (fun k9 ek9 => ?_)
  obtain rfl : k9 = 0 := ek9.trans (by decide)
  refine va_put (D := (dC, dI)) (ci := 12) (v := .int 0) (ty := .int) (C := RX12) (T := TX12) (N := 56) hx hb hts hinX12 tyX12 tyX12_ok nmX12 hown hK hP hD hS 1 rfl rfl 3 (by decide) (hts (.fieldLink RX12 124 "DreamGuardModel" "at" "I") (by decide +kernel)) (fun _ h9 => h9) rfl (by decide +kernel) rfl rfl (Nat.le_of_ble_eq_true rfl) dX12_readFort_193 (fun H locs hP hD hS => ?_)
  have hP : va_P (dC, dI) vwCl [(h1, .inl (cI, 3, .inl f6)), (h0, .inr (12, [d0, d1, .int 0, .int 0, .int 0, d5, d6, d7, d8, d9, d10, d11, d12, d13, d14, d15, d16, .ref h1, d18, .int 0, d20, d21, d22, d23, d24, d25, d26, d27, d28, d29, d30, d31, d32, d33, d34, d35, d36, d37, d38, d39, d40, d41, d42, d43, d44, d45, d46, d47, d48, d49, d50, d51, d52, d53, d54, d55]))] H := hP
  have hD : va_D A [(h1, .inl (cI, 3, .inl f6)), (h0, .inr (12, [d0, d1, .int 0, .int 0, .int 0, d5, d6, d7, d8, d9, d10, d11, d12, d13, d14, d15, d16, .ref h1, d18, .int 0, d20, d21, d22, d23, d24, d25, d26, d27, d28, d29, d30, d31, d32, d33, d34, d35, d36, d37, d38, d39, d40, d41, d42, d43, d44, d45, d46, d47, d48, d49, d50, d51, d52, d53, d54, d55]))] := hD
  refine lv_goto (tgt := 44) hx hb dX12_readFort_196 (by decide) ?_
  refine lv_iload_n hx hb dX12_readFort_44 rfl (lv_at hl 0 rfl) ?_
  refine lv_if_eq (tgt := 199) hx hb dX12_readFort_45 (by decide) (fun _ => ?_) (fun c9 => absurd (by decide) c9)
  refine lv_aload_n hx hb dX12_readFort_199 rfl (lv_at hl 3 rfl) ?_
  refine va_get (D := (dC, dI)) (ci := 12) (v := .int 0) (C := RX12) (T := TX12) (N := 56) hx hb hts hinX12 hown hK hP 1 rfl rfl 4 (by decide) (hts (.fieldLink RX12 131 "DreamGuardModel" "wrong" "I") (by decide +kernel)) (fun _ h9 => h9) rfl dX12_readFort_200 ?_
  refine lv_iconst (v := (-1)) hx hb dX12_readFort_203 (by decide) ?_
  refine lv_icmp_ne (tgt := 226) hx hb dX12_readFort_204 (by decide) (fun _ => ?_) (fun c9 => absurd c9 (by decide))
  refine lv_aload_n hx hb dX12_readFort_226 rfl (lv_at hl 3 rfl) ?_
  refine va_get (D := (dC, dI)) (ci := 12) (v := .int 0) (C := RX12) (T := TX12) (N := 56) hx hb hts hinX12 hown hK hP 1 rfl rfl 4 (by decide) (hts (.fieldLink RX12 131 "DreamGuardModel" "wrong" "I") (by decide +kernel)) (fun _ h9 => h9) rfl dX12_readFort_227 ?_
  exact W.iret (v := 0) hx hb hr (fun t ht hW => ⟨⟨0, (), rfl, (by unfold s_X12_readFort; first | rfl | simp), trivial⟩, hS.F ht⟩) hS.2.2 dX12_readFort_230

set_option maxHeartbeats 4000000 in
set_option maxRecDepth 100000 in
theorem c_X12_open0 (l : Launch) (dC : Nat → ClassId) (dI : Nat → Nat → Nat) (cI cZ : ClassId) (sz : Nat) (h0 : Nat) (h1 : Nat) (h2 : Nat) (d0 : Value) (d1 : Value) (d2 : Value) (d3 : Value) (d4 : Value) (d5 : Value) (d6 : Value) (d7 : Value) (d10 : Value) (d11 : Value) (d12 : Value) (d13 : Value) (d14 : Value) (d15 : Value) (d16 : Value) (d17 : Value) (d18 : Value) (d19 : Value) (d20 : Value) (d21 : Value) (d22 : Value) (d23 : Value) (d24 : Value) (d25 : Value) (d26 : Value) (d27 : Value) (d28 : Value) (d29 : Value) (d30 : Value) (d31 : Value) (d32 : Value) (d33 : Value) (d34 : Value) (d35 : Value) (d36 : Value) (d37 : Value) (d38 : Value) (d39 : Value) (d40 : Value) (d41 : Value) (d42 : Value) (d43 : Value) (d44 : Value) (d45 : Value) (d46 : Value) (d47 : Value) (d48 : Value) (d49 : Value) (d50 : Value) (d51 : Value) (d52 : Value) (d53 : Value) (d54 : Value) (d55 : Value) : Met l yX12_open wsX12_open ({ frames := 0, cells := 0, slots := 0, locals := 0 }) (va_Pc [.ref h0, .int 0] (zPre dC dI cI cZ sz [(h0, .inr (12, [d0, d1, d2, d3, d4, d5, d6, d7, .ref h1, .ref h2, d10, d11, d12, d13, d14, d15, d16, d17, d18, d19, d20, d21, d22, d23, d24, d25, d26, d27, d28, d29, d30, d31, d32, d33, d34, d35, d36, d37, d38, d39, d40, d41, d42, d43, d44, d45, d46, d47, d48, d49, d50, d51, d52, d53, d54, d55])), (h1, .inl (cI, 5, .inl (fun _ => 0))), (h2, .inl (cI, 5, .inl (fun _ => 0)))])) (va_Qv (fun (_ : Unit) => True) (fun (_ : Unit) t => ∃ g2 : Nat → Int32, (va_P (dC, dI) vwCl [(h0, .inr (12, [d0, d1, d2, .int 0, .int (-1), .int 0, d6, d7, .ref h1, .ref h2, d10, d11, d12, d13, .int 0, d15, d16, d17, d18, d19, d20, d21, d22, d23, d24, d25, d26, d27, d28, d29, d30, d31, d32, d33, d34, d35, d36, d37, d38, d39, d40, d41, d42, d43, d44, d45, d46, d47, d48, d49, d50, d51, d52, d53, d54, d55])), (h2, .inl (cI, 5, .inl g2))] t.heap ∧ va_D (va_A [(h0, .inr (12, [d0, d1, d2, d3, d4, d5, d6, d7, .ref h1, .ref h2, d10, d11, d12, d13, d14, d15, d16, d17, d18, d19, d20, d21, d22, d23, d24, d25, d26, d27, d28, d29, d30, d31, d32, d33, d34, d35, d36, d37, d38, d39, d40, d41, d42, d43, d44, d45, d46, d47, d48, d49, d50, d51, d52, d53, d54, d55])), (h1, .inl (cI, 5, .inl (fun _ => 0))), (h2, .inl (cI, 5, .inl (fun _ => 0)))] sz) [(h0, .inr (12, [d0, d1, d2, .int 0, .int (-1), .int 0, d6, d7, .ref h1, .ref h2, d10, d11, d12, d13, .int 0, d15, d16, d17, d18, d19, d20, d21, d22, d23, d24, d25, d26, d27, d28, d29, d30, d31, d32, d33, d34, d35, d36, d37, d38, d39, d40, d41, d42, d43, d44, d45, d46, d47, d48, d49, d50, d51, d52, d53, d54, d55])), (h2, .inl (cI, 5, .inl g2))])) (va_A [(h0, .inr (12, [d0, d1, d2, d3, d4, d5, d6, d7, .ref h1, .ref h2, d10, d11, d12, d13, d14, d15, d16, d17, d18, d19, d20, d21, d22, d23, d24, d25, d26, d27, d28, d29, d30, d31, d32, d33, d34, d35, d36, d37, d38, d39, d40, d41, d42, d43, d44, d45, d46, d47, d48, d49, d50, d51, d52, d53, d54, d55])), (h1, .inl (cI, 5, .inl (fun _ => 0))), (h2, .inl (cI, 5, .inl (fun _ => 0)))] sz)) 0 0 (va_A [(h0, .inr (12, [d0, d1, d2, d3, d4, d5, d6, d7, .ref h1, .ref h2, d10, d11, d12, d13, d14, d15, d16, d17, d18, d19, d20, d21, d22, d23, d24, d25, d26, d27, d28, d29, d30, d31, d32, d33, d34, d35, d36, d37, d38, d39, d40, d41, d42, d43, d44, d45, d46, d47, d48, d49, d50, d51, d52, d53, d54, d55])), (h1, .inl (cI, 5, .inl (fun _ => 0))), (h2, .inl (cI, 5, .inl (fun _ => 0)))] sz) := by
  refine Met.ofW (cc := cX12_open) (maxL := 2) (ret := none) (by decide) rfl ?_
  intro p e s m args below meth c s₁ B hml hv
  obtain ⟨rfl, hsz, hP, hK, hD0, hG⟩ := hv
  have hx := B.exec
  have hb := B.bytes
  have hr := B.returns
  have hts := atoms_spec (ws := wsX12_open) B.pre
  have hown : s.vm.findClass RX12 = some m.cls := findClass_of_methodNamed B.named
  have hlocks := B.notSynchronized
  have hinX12 : ∀ w ∈ wsX120, w ∈ wsX12_open := by decide +kernel
  subst hsz
  have hD := hD0.self (sz := s.heap.size)
  generalize hAe : va_A [(h0, .inr (12, [d0, d1, d2, d3, d4, d5, d6, d7, .ref h1, .ref h2, d10, d11, d12, d13, d14, d15, d16, d17, d18, d19, d20, d21, d22, d23, d24, d25, d26, d27, d28, d29, d30, d31, d32, d33, d34, d35, d36, d37, d38, d39, d40, d41, d42, d43, d44, d45, d46, d47, d48, d49, d50, d51, d52, d53, d54, d55])), (h1, .inl (cI, 5, .inl (fun _ => 0))), (h2, .inl (cI, 5, .inl (fun _ => 0)))] s.heap.size = A at hD ⊢
  have hA : ∀ q : Nat, s.heap.size ≤ q → A q := fun q h => by rw [← hAe]; exact Or.inr h
  have hS : va_S A s.heap s.heap [] := va_S.rf
  have hP : va_P (dC, dI) vwCl [(h0, .inr (12, [d0, d1, d2, d3, d4, d5, d6, d7, .ref h1, .ref h2, d10, d11, d12, d13, d14, d15, d16, d17, d18, d19, d20, d21, d22, d23, d24, d25, d26, d27, d28, d29, d30, d31, d32, d33, d34, d35, d36, d37, d38, d39, d40, d41, d42, d43, d44, d45, d46, d47, d48, d49, d50, d51, d52, d53, d54, d55])), (h1, .inl (cI, 5, .inl (fun _ => 0))), (h2, .inl (cI, 5, .inl (fun _ => 0)))] s.heap := hP
  have hl := lv_entry ([.ref h0, .int 0]) (n := 2) (Nat.le_of_ble_eq_true rfl)
  rw [lg_entry_eq]
  generalize (lg_sl ([.ref h0, .int 0]) ++ List.replicate (2 - (lg_sl ([.ref h0, .int 0])).length) Slot.unset).toArray = ls at hl ⊢
  have hl : lv_has ls 2 [(0, .ref h0), (1, .int 0)] := hl
  refine lv_aload_n hx hb dX12_open_0 rfl (lv_at hl 0 rfl) ?_
  refine lv_iload_n hx hb dX12_open_1 rfl (lv_at hl 1 rfl) ?_
  refine va_put (D := (dC, dI)) (ci := 12) (v := .int 0) (ty := .int) (C := RX12) (T := TX12) (N := 56) hx hb hts hinX12 tyX12 tyX12_ok nmX12 hown hK hP hD hS 0 rfl rfl 14 (by decide) (hts (.fieldLink RX12 134 "DreamGuardModel" "text" "I") (by decide +kernel)) (fun _ h9 => h9) rfl (by decide +kernel) rfl rfl (Nat.le_of_ble_eq_true rfl) dX12_open_2 (fun H locs hP hD hS => ?_)
  have hP : va_P (dC, dI) vwCl [(h0, .inr (12, [d0, d1, d2, d3, d4, d5, d6, d7, .ref h1, .ref h2, d10, d11, d12, d13, .int 0, d15, d16, d17, d18, d19, d20, d21, d22, d23, d24, d25, d26, d27, d28, d29, d30, d31, d32, d33, d34, d35, d36, d37, d38, d39, d40, d41, d42, d43, d44, d45, d46, d47, d48, d49, d50, d51, d52, d53, d54, d55])), (h1, .inl (cI, 5, .inl (fun _ => 0))), (h2, .inl (cI, 5, .inl (fun _ => 0)))] H := hP
  have hD : va_D A [(h0, .inr (12, [d0, d1, d2, d3, d4, d5, d6, d7, .ref h1, .ref h2, d10, d11, d12, d13, .int 0, d15, d16, d17, d18, d19, d20, d21, d22, d23, d24, d25, d26, d27, d28, d29, d30, d31, d32, d33, d34, d35, d36, d37, d38, d39, d40, d41, d42, d43, d44, d45, d46, d47, d48, d49, d50, d51, d52, d53, d54, d55])), (h1, .inl (cI, 5, .inl (fun _ => 0))), (h2, .inl (cI, 5, .inl (fun _ => 0)))] := hD
  refine lv_aload_n hx hb dX12_open_5 rfl (lv_at hl 0 rfl) ?_
  refine lv_iconst (v := 0) hx hb dX12_open_6 (by decide) ?_
  refine va_put (D := (dC, dI)) (ci := 12) (v := .int 0) (ty := .int) (C := RX12) (T := TX12) (N := 56) hx hb hts hinX12 tyX12 tyX12_ok nmX12 hown hK hP hD hS 0 rfl rfl 3 (by decide) (hts (.fieldLink RX12 124 "DreamGuardModel" "at" "I") (by decide +kernel)) (fun _ h9 => h9) rfl (by decide +kernel) rfl rfl (Nat.le_of_ble_eq_true rfl) dX12_open_7 (fun H locs hP hD hS => ?_)
  have hP : va_P (dC, dI) vwCl [(h0, .inr (12, [d0, d1, d2, .int 0, d4, d5, d6, d7, .ref h1, .ref h2, d10, d11, d12, d13, .int 0, d15, d16, d17, d18, d19, d20, d21, d22, d23, d24, d25, d26, d27, d28, d29, d30, d31, d32, d33, d34, d35, d36, d37, d38, d39, d40, d41, d42, d43, d44, d45, d46, d47, d48, d49, d50, d51, d52, d53, d54, d55])), (h1, .inl (cI, 5, .inl (fun _ => 0))), (h2, .inl (cI, 5, .inl (fun _ => 0)))] H := hP
  have hD : va_D A [(h0, .inr (12, [d0, d1, d2, .int 0, d4, d5, d6, d7, .ref h1, .ref h2, d10, d11, d12, d13, .int 0, d15, d16, d17, d18, d19, d20, d21, d22, d23, d24, d25, d26, d27, d28, d29, d30, d31, d32, d33, d34, d35, d36, d37, d38, d39, d40, d41, d42, d43, d44, d45, d46, d47, d48, d49, d50, d51, d52, d53, d54, d55])), (h1, .inl (cI, 5, .inl (fun _ => 0))), (h2, .inl (cI, 5, .inl (fun _ => 0)))] := hD
  refine lv_aload_n hx hb dX12_open_10 rfl (lv_at hl 0 rfl) ?_
  refine lv_iconst (v := (-1)) hx hb dX12_open_11 (by decide) ?_
  refine va_put (D := (dC, dI)) (ci := 12) (v := .int (-1)) (ty := .int) (C := RX12) (T := TX12) (N := 56) hx hb hts hinX12 tyX12 tyX12_ok nmX12 hown hK hP hD hS 0 rfl rfl 4 (by decide) (hts (.fieldLink RX12 131 "DreamGuardModel" "wrong" "I") (by decide +kernel)) (fun _ h9 => h9) rfl (by decide +kernel) rfl rfl (Nat.le_of_ble_eq_true rfl) dX12_open_12 (fun H locs hP hD hS => ?_)
  have hP : va_P (dC, dI) vwCl [(h0, .inr (12, [d0, d1, d2, .int 0, .int (-1), d5, d6, d7, .ref h1, .ref h2, d10, d11, d12, d13, .int 0, d15, d16, d17, d18, d19, d20, d21, d22, d23, d24, d25, d26, d27, d28, d29, d30, d31, d32, d33, d34, d35, d36, d37, d38, d39, d40, d41, d42, d43, d44, d45, d46, d47, d48, d49, d50, d51, d52, d53, d54, d55])), (h1, .inl (cI, 5, .inl (fun _ => 0))), (h2, .inl (cI, 5, .inl (fun _ => 0)))] H := hP
  have hD : va_D A [(h0, .inr (12, [d0, d1, d2, .int 0, .int (-1), d5, d6, d7, .ref h1, .ref h2, d10, d11, d12, d13, .int 0, d15, d16, d17, d18, d19, d20, d21, d22, d23, d24, d25, d26, d27, d28, d29, d30, d31, d32, d33, d34, d35, d36, d37, d38, d39, d40, d41, d42, d43, d44, d45, d46, d47, d48, d49, d50, d51, d52, d53, d54, d55])), (h1, .inl (cI, 5, .inl (fun _ => 0))), (h2, .inl (cI, 5, .inl (fun _ => 0)))] := hD
  refine lv_aload_n hx hb dX12_open_15 rfl (lv_at hl 0 rfl) ?_
  refine lv_iconst (v := 0) hx hb dX12_open_16 (by decide) ?_
  refine va_put (D := (dC, dI)) (ci := 12) (v := .int 0) (ty := .int) (C := RX12) (T := TX12) (N := 56) hx hb hts hinX12 tyX12 tyX12_ok nmX12 hown hK hP hD hS 0 rfl rfl 5 (by decide) (hts (.fieldLink RX12 137 "DreamGuardModel" "deep" "I") (by decide +kernel)) (fun _ h9 => h9) rfl (by decide +kernel) rfl rfl (Nat.le_of_ble_eq_true rfl) dX12_open_17 (fun H locs hP hD hS => ?_)
  have hP : va_P (dC, dI) vwCl [(h0, .inr (12, [d0, d1, d2, .int 0, .int (-1), .int 0, d6, d7, .ref h1, .ref h2, d10, d11, d12, d13, .int 0, d15, d16, d17, d18, d19, d20, d21, d22, d23, d24, d25, d26, d27, d28, d29, d30, d31, d32, d33, d34, d35, d36, d37, d38, d39, d40, d41, d42, d43, d44, d45, d46, d47, d48, d49, d50, d51, d52, d53, d54, d55])), (h1, .inl (cI, 5, .inl (fun _ => 0))), (h2, .inl (cI, 5, .inl (fun _ => 0)))] H := hP
  have hD : va_D A [(h0, .inr (12, [d0, d1, d2, .int 0, .int (-1), .int 0, d6, d7, .ref h1, .ref h2, d10, d11, d12, d13, .int 0, d15, d16, d17, d18, d19, d20, d21, d22, d23, d24, d25, d26, d27, d28, d29, d30, d31, d32, d33, d34, d35, d36, d37, d38, d39, d40, d41, d42, d43, d44, d45, d46, d47, d48, d49, d50, d51, d52, d53, d54, d55])), (h1, .inl (cI, 5, .inl (fun _ => 0))), (h2, .inl (cI, 5, .inl (fun _ => 0)))] := hD
  refine lv_aload_n hx hb dX12_open_20 rfl (lv_at hl 0 rfl) ?_
  refine va_get (D := (dC, dI)) (ci := 12) (v := .ref h1) (C := RX12) (T := TX12) (N := 56) hx hb hts hinX12 hown hK hP 0 rfl rfl 8 (by decide) (hts (.fieldLink RX12 19 "DreamGuardModel" "codes" "[I") (by decide +kernel)) (fun _ h9 => h9) rfl dX12_open_21 ?_
  refine lv_iload_n hx hb dX12_open_24 rfl (lv_at hl 1 rfl) ?_
  refine lv_iconst (v := 0) hx hb dX12_open_25 (by decide) ?_
  refine va_iast (i := 0) hx hb hK hP hD hS 1 0 rfl rfl (show ¬ ((0 : Int32) < 0 ∨ 5 ≤ (0 : Int32).toNatClampNeg) by decide) dX12_open_26 (fun H locs hP hD hS => ?_)
  generalize hff1 : upd (fun _ => 0) (0 : Int32).toNatClampNeg 0 = f1 at hP hD
  have hP : va_P (dC, dI) vwCl [(h0, .inr (12, [d0, d1, d2, .int 0, .int (-1), .int 0, d6, d7, .ref h1, .ref h2, d10, d11, d12, d13, .int 0, d15, d16, d17, d18, d19, d20, d21, d22, d23, d24, d25, d26, d27, d28, d29, d30, d31, d32, d33, d34, d35, d36, d37, d38, d39, d40, d41, d42, d43, d44, d45, d46, d47, d48, d49, d50, d51, d52, d53, d54, d55])), (h1, .inl (cI, 5, .inl f1)), (h2, .inl (cI, 5, .inl (fun _ => 0)))] H := hP
  have hD : va_D A [(h0, .inr (12, [d0, d1, d2, .int 0, .int (-1), .int 0, d6, d7, .ref h1, .ref h2, d10, d11, d12, d13, .int 0, d15, d16, d17, d18, d19, d20, d21, d22, d23, d24, d25, d26, d27, d28, d29, d30, d31, d32, d33, d34, d35, d36, d37, d38, d39, d40, d41, d42, d43, d44, d45, d46, d47, d48, d49, d50, d51, d52, d53, d54, d55])), (h1, .inl (cI, 5, .inl f1)), (h2, .inl (cI, 5, .inl (fun _ => 0)))] := hD
  refine lv_aload_n hx hb dX12_open_27 rfl (lv_at hl 0 rfl) ?_
  refine va_get (D := (dC, dI)) (ci := 12) (v := .ref h2) (C := RX12) (T := TX12) (N := 56) hx hb hts hinX12 hown hK hP 0 rfl rfl 9 (by decide) (hts (.fieldLink RX12 22 "DreamGuardModel" "clauses" "[I") (by decide +kernel)) (fun _ h9 => h9) rfl dX12_open_28 ?_
  refine lv_iload_n hx hb dX12_open_31 rfl (lv_at hl 1 rfl) ?_
  refine lv_iconst (v := 0) hx hb dX12_open_32 (by decide) ?_
  refine va_iast (i := 0) hx hb hK hP hD hS 2 0 rfl rfl (show ¬ ((0 : Int32) < 0 ∨ 5 ≤ (0 : Int32).toNatClampNeg) by decide) dX12_open_33 (fun H locs hP hD hS => ?_)
  generalize hff2 : upd (fun _ => 0) (0 : Int32).toNatClampNeg 0 = f2 at hP hD
  have hP : va_P (dC, dI) vwCl [(h0, .inr (12, [d0, d1, d2, .int 0, .int (-1), .int 0, d6, d7, .ref h1, .ref h2, d10, d11, d12, d13, .int 0, d15, d16, d17, d18, d19, d20, d21, d22, d23, d24, d25, d26, d27, d28, d29, d30, d31, d32, d33, d34, d35, d36, d37, d38, d39, d40, d41, d42, d43, d44, d45, d46, d47, d48, d49, d50, d51, d52, d53, d54, d55])), (h1, .inl (cI, 5, .inl f1)), (h2, .inl (cI, 5, .inl f2))] H := hP
  have hD : va_D A [(h0, .inr (12, [d0, d1, d2, .int 0, .int (-1), .int 0, d6, d7, .ref h1, .ref h2, d10, d11, d12, d13, .int 0, d15, d16, d17, d18, d19, d20, d21, d22, d23, d24, d25, d26, d27, d28, d29, d30, d31, d32, d33, d34, d35, d36, d37, d38, d39, d40, d41, d42, d43, d44, d45, d46, d47, d48, d49, d50, d51, d52, d53, d54, d55])), (h1, .inl (cI, 5, .inl f1)), (h2, .inl (cI, 5, .inl f2))] := hD
  have hP9 := hP.sub (ws' := [(h0, .inr (12, [d0, d1, d2, .int 0, .int (-1), .int 0, d6, d7, .ref h1, .ref h2, d10, d11, d12, d13, .int 0, d15, d16, d17, d18, d19, d20, d21, d22, d23, d24, d25, d26, d27, d28, d29, d30, d31, d32, d33, d34, d35, d36, d37, d38, d39, d40, d41, d42, d43, d44, d45, d46, d47, d48, d49, d50, d51, d52, d53, d54, d55])), (h2, .inl (cI, 5, .inl f2))]) [0, 2] rfl
  have hD9 := hD.sub (ws' := [(h0, .inr (12, [d0, d1, d2, .int 0, .int (-1), .int 0, d6, d7, .ref h1, .ref h2, d10, d11, d12, d13, .int 0, d15, d16, d17, d18, d19, d20, d21, d22, d23, d24, d25, d26, d27, d28, d29, d30, d31, d32, d33, d34, d35, d36, d37, d38, d39, d40, d41, d42, d43, d44, d45, d46, d47, d48, d49, d50, d51, d52, d53, d54, d55])), (h2, .inl (cI, 5, .inl f2))]) [0, 2] (by decide) rfl
  exact W.vret hx hb hr (fun t ht hW => ⟨⟨(), rfl, trivial, ⟨f2, by rw [ht]; exact hP9, hD9⟩⟩, hS.F ht⟩) hS.2.2 dX12_open_34

set_option maxHeartbeats 4000000 in
set_option maxRecDepth 100000 in
theorem c_X12_clause0 (l : Launch) (dC : Nat → ClassId) (dI : Nat → Nat → Nat) (cI cZ : ClassId) (sz : Nat) (h0 : Nat) (h2 : Nat) (f2 : Nat → Int32) (d0 : Value) (d1 : Value) (d5 : Value) (d6 : Value) (d7 : Value) (d8 : Value) (d10 : Value) (d11 : Value) (d12 : Value) (d13 : Value) (d15 : Value) (d16 : Value) (d17 : Value) (d18 : Value) (d19 : Value) (d20 : Value) (d21 : Value) (d22 : Value) (d23 : Value) (d24 : Value) (d25 : Value) (d26 : Value) (d27 : Value) (d28 : Value) (d29 : Value) (d30 : Value) (d31 : Value) (d32 : Value) (d33 : Value) (d34 : Value) (d35 : Value) (d36 : Value) (d37 : Value) (d38 : Value) (d39 : Value) (d40 : Value) (d41 : Value) (d42 : Value) (d43 : Value) (d44 : Value) (d45 : Value) (d46 : Value) (d47 : Value) (d48 : Value) (d49 : Value) (d50 : Value) (d51 : Value) (d52 : Value) (d53 : Value) (d54 : Value) (d55 : Value) : Met l yX12_clause wsX12_clause ({ frames := 2, cells := 0, slots := 0, locals := 40 }) (va_Pc [.ref h0] (zPre dC dI cI cZ sz [(h0, .inr (12, [d0, d1, .int 0, .int 0, .int (-1), d5, d6, d7, d8, .ref h2, d10, d11, d12, d13, .int 0, d15, d16, d17, d18, d19, d20, d21, d22, d23, d24, d25, d26, d27, d28, d29, d30, d31, d32, d33, d34, d35, d36, d37, d38, d39, d40, d41, d42, d43, d44, d45, d46, d47, d48, d49, d50, d51, d52, d53, d54, d55])), (h2, .inl (cI, 5, .inl f2))])) (va_Qv (fun (_ : Unit) => True) (fun (_ : Unit) t => (va_P (dC, dI) vwCl [(h0, .inr (12, [d0, d1, .int 0, .int 2, .int 0, d5, d6, d7, d8, .ref h2, d10, d11, d12, d13, .int 0, d15, d16, d17, d18, d19, d20, d21, d22, d23, d24, d25, d26, d27, d28, d29, d30, d31, d32, d33, d34, d35, d36, d37, d38, d39, d40, d41, d42, d43, d44, d45, d46, d47, d48, d49, d50, d51, d52, d53, d54, d55]))] t.heap ∧ va_D (va_A [(h0, .inr (12, [d0, d1, .int 0, .int 0, .int (-1), d5, d6, d7, d8, .ref h2, d10, d11, d12, d13, .int 0, d15, d16, d17, d18, d19, d20, d21, d22, d23, d24, d25, d26, d27, d28, d29, d30, d31, d32, d33, d34, d35, d36, d37, d38, d39, d40, d41, d42, d43, d44, d45, d46, d47, d48, d49, d50, d51, d52, d53, d54, d55])), (h2, .inl (cI, 5, .inl f2))] sz) [(h0, .inr (12, [d0, d1, .int 0, .int 2, .int 0, d5, d6, d7, d8, .ref h2, d10, d11, d12, d13, .int 0, d15, d16, d17, d18, d19, d20, d21, d22, d23, d24, d25, d26, d27, d28, d29, d30, d31, d32, d33, d34, d35, d36, d37, d38, d39, d40, d41, d42, d43, d44, d45, d46, d47, d48, d49, d50, d51, d52, d53, d54, d55]))])) (va_A [(h0, .inr (12, [d0, d1, .int 0, .int 0, .int (-1), d5, d6, d7, d8, .ref h2, d10, d11, d12, d13, .int 0, d15, d16, d17, d18, d19, d20, d21, d22, d23, d24, d25, d26, d27, d28, d29, d30, d31, d32, d33, d34, d35, d36, d37, d38, d39, d40, d41, d42, d43, d44, d45, d46, d47, d48, d49, d50, d51, d52, d53, d54, d55])), (h2, .inl (cI, 5, .inl f2))] sz)) 0 0 (va_A [(h0, .inr (12, [d0, d1, .int 0, .int 0, .int (-1), d5, d6, d7, d8, .ref h2, d10, d11, d12, d13, .int 0, d15, d16, d17, d18, d19, d20, d21, d22, d23, d24, d25, d26, d27, d28, d29, d30, d31, d32, d33, d34, d35, d36, d37, d38, d39, d40, d41, d42, d43, d44, d45, d46, d47, d48, d49, d50, d51, d52, d53, d54, d55])), (h2, .inl (cI, 5, .inl f2))] sz) := by
  refine Met.ofW (cc := cX12_clause) (maxL := 3) (ret := none) (by decide) rfl ?_
  intro p e s m args below meth c s₁ B hml hv
  obtain ⟨rfl, hsz, hP, hK, hD0, hG⟩ := hv
  have hx := B.exec
  have hb := B.bytes
  have hr := B.returns
  have hts := atoms_spec (ws := wsX12_clause) B.pre
  have hown : s.vm.findClass RX12 = some m.cls := findClass_of_methodNamed B.named
  have hlocks := B.notSynchronized
  have hinX12 : ∀ w ∈ wsX120, w ∈ wsX12_clause := by decide +kernel
  subst hsz
  have hD := hD0.self (sz := s.heap.size)
  generalize hAe : va_A [(h0, .inr (12, [d0, d1, .int 0, .int 0, .int (-1), d5, d6, d7, d8, .ref h2, d10, d11, d12, d13, .int 0, d15, d16, d17, d18, d19, d20, d21, d22, d23, d24, d25, d26, d27, d28, d29, d30, d31, d32, d33, d34, d35, d36, d37, d38, d39, d40, d41, d42, d43, d44, d45, d46, d47, d48, d49, d50, d51, d52, d53, d54, d55])), (h2, .inl (cI, 5, .inl f2))] s.heap.size = A at hD ⊢
  have hA : ∀ q : Nat, s.heap.size ≤ q → A q := fun q h => by rw [← hAe]; exact Or.inr h
  have hS : va_S A s.heap s.heap [] := va_S.rf
  have hP : va_P (dC, dI) vwCl [(h0, .inr (12, [d0, d1, .int 0, .int 0, .int (-1), d5, d6, d7, d8, .ref h2, d10, d11, d12, d13, .int 0, d15, d16, d17, d18, d19, d20, d21, d22, d23, d24, d25, d26, d27, d28, d29, d30, d31, d32, d33, d34, d35, d36, d37, d38, d39, d40, d41, d42, d43, d44, d45, d46, d47, d48, d49, d50, d51, d52, d53, d54, d55])), (h2, .inl (cI, 5, .inl f2))] s.heap := hP
  have hl := lv_entry ([.ref h0]) (n := 3) (Nat.le_of_ble_eq_true rfl)
  rw [lg_entry_eq]
  generalize (lg_sl ([.ref h0]) ++ List.replicate (3 - (lg_sl ([.ref h0])).length) Slot.unset).toArray = ls at hl ⊢
  have hl : lv_has ls 3 [(0, .ref h0)] := hl
  refine lv_sipush (v := 140) hx hb dX12_clause_0 (by decide) ?_
  refine lv_aload_n hx hb dX12_clause_3 rfl (lv_at hl 0 rfl) ?_
  refine va_get (D := (dC, dI)) (ci := 12) (v := .int 0) (C := RX12) (T := TX12) (N := 56) hx hb hts hinX12 hown hK hP 0 rfl rfl 14 (by decide) (hts (.fieldLink RX12 134 "DreamGuardModel" "text" "I") (by decide +kernel)) (fun _ h9 => h9) rfl dX12_clause_4 ?_
  refine lv_imul hx hb dX12_clause_7 ?_
  refine lv_topi (fun k1 ek1 => ?_)
  obtain rfl : k1 = 0 := ek1.trans (by decide)
  refine lv_aload_n hx hb dX12_clause_8 rfl (lv_at hl 0 rfl) ?_
  refine va_get (D := (dC, dI)) (ci := 12) (v := .ref h2) (C := RX12) (T := TX12) (N := 56) hx hb hts hinX12 hown hK hP 0 rfl rfl 9 (by decide) (hts (.fieldLink RX12 22 "DreamGuardModel" "clauses" "[I") (by decide +kernel)) (fun _ h9 => h9) rfl dX12_clause_9 ?_
  refine lv_aload_n hx hb dX12_clause_12 rfl (lv_at hl 0 rfl) ?_
  refine va_get (D := (dC, dI)) (ci := 12) (v := .int 0) (C := RX12) (T := TX12) (N := 56) hx hb hts hinX12 hown hK hP 0 rfl rfl 14 (by decide) (hts (.fieldLink RX12 134 "DreamGuardModel" "text" "I") (by decide +kernel)) (fun _ h9 => h9) rfl dX12_clause_13 ?_
  refine va_iald (i := 0) hx hb hK hP 1 0 rfl rfl (show ¬ ((0 : Int32) < 0 ∨ 5 ≤ (0 : Int32).toNatClampNeg) by decide) dX12_clause_16 ?_
  refine lv_iadd hx hb dX12_clause_17 ?_
  refine lv_istore_n (lv' := [(1, .int (0 + (f2 (0 : Int32).toNatClampNeg))), (0, .ref h0)]) hx hb dX12_clause_18 rfl hl (by decide) rfl (fun ls hl => ?_)
  refine lv_aload_n hx hb dX12_clause_19 rfl (lv_at hl 1 rfl) ?_
  refine va_get (D := (dC, dI)) (ci := 12) (v := .int (-1)) (C := RX12) (T := TX12) (N := 56) hx hb hts hinX12 hown hK hP 0 rfl rfl 4 (by decide) (hts (.fieldLink RX12 131 "DreamGuardModel" "wrong" "I") (by decide +kernel)) (fun _ h9 => h9) rfl dX12_clause_20 ?_
  refine lv_iconst (v := (-1)) hx hb dX12_clause_23 (by decide) ?_
  refine lv_icmp_ne (tgt := 40) hx hb dX12_clause_24 (by decide) (fun c9 => absurd (by decide) c9) (fun _ => ?_)
  refine lv_aload_n hx hb dX12_clause_27 rfl (lv_at hl 1 rfl) ?_
  have hPc := hP.sub (ws' := [(h0, .inr (12, [d0, d1, .int 0, .int 0, .int (-1), d5, d6, d7, d8, .ref h2, d10, d11, d12, d13, .int 0, d15, d16, d17, d18, d19, d20, d21, d22, d23, d24, d25, d26, d27, d28, d29, d30, d31, d32, d33, d34, d35, d36, d37, d38, d39, d40, d41, d42, d43, d44, d45, d46, d47, d48, d49, d50, d51, d52, d53, d54, d55]))]) [0] rfl
  have hDc := hD.sub (ws' := [(h0, .inr (12, [d0, d1, .int 0, .int 0, .int (-1), d5, d6, d7, d8, .ref h2, d10, d11, d12, d13, .int 0, d15, d16, d17, d18, d19, d20, d21, d22, d23, d24, d25, d26, d27, d28, d29, d30, d31, d32, d33, d34, d35, d36, d37, d38, d39, d40, d41, d42, d43, d44, d45, d46, d47, d48, d49, d50, d51, d52, d53, d54, d55]))]) [0] (by decide) rfl
  refine va_calli (va_runV (As := []) (rest := []) ⟨hx, hb, hml, hown, hts⟩ (c_X12_look l dC dI cI cZ s.heap.size h0 d0 d1 (.int (-1)) d5 d6 d7 d8 (.ref h2) d10 d11 d12 d13 (.int 0) d15 d16 d17 d18 d19 d20 d21 d22 d23 d24 d25 d26 d27 d28 d29 d30 d31 d32 d33 d34 d35 d36 d37 d38 d39 d40 d41 d42 d43 d44 d45 d46 d47 d48 d49 d50 d51 d52 d53 d54 d55) (cwV 0 hts gX12_clause_X12_look rfl rfl rfl (by decide +kernel) ⟨Nat.le_of_ble_eq_true rfl, Nat.le_of_ble_eq_true rfl⟩) (zPreV hPc hK hDc hG (ci := 12) (q0 := 0) rfl rfl) rfl rfl hl.1 rfl (lv_room (Nat.le_of_ble_eq_true rfl)) dX12_clause_28 ⟨Nat.le_of_ble_eq_true rfl, Nat.le_of_ble_eq_true rfl⟩) hS (fun _ _ h => h.elim) (fun _ h => h.elim) (fun r2 u9 t9 H1 locs ht9 hvm hwr2 hB9 hz1 hk1 hS => ?_)
  replace hP := zKept hP hk1
  try clear hB9 hz1 hk1 hvm ht9 u9 hPc hDc
  generalize H1 = H at hP hS ⊢
  obtain rfl : r2 = (-1) := hwr2.trans rfl
  refine lv_bipush (v := 121) hx hb dX12_clause_31 (by decide) ?_
  refine lv_icmp_eq (tgt := 40) hx hb dX12_clause_33 (by decide) (fun c9 => absurd c9 (by decide)) (fun _ => ?_)
  refine lv_aload_n hx hb dX12_clause_36 rfl (lv_at hl 1 rfl) ?_
  have hPc := hP.sub (ws' := [(h0, .inr (12, [d0, d1, .int 0, .int 0, .int (-1), d5, d6, d7, d8, .ref h2, d10, d11, d12, d13, .int 0, d15, d16, d17, d18, d19, d20, d21, d22, d23, d24, d25, d26, d27, d28, d29, d30, d31, d32, d33, d34, d35, d36, d37, d38, d39, d40, d41, d42, d43, d44, d45, d46, d47, d48, d49, d50, d51, d52, d53, d54, d55]))]) [0] rfl
  have hDc := hD.sub (ws' := [(h0, .inr (12, [d0, d1, .int 0, .int 0, .int (-1), d5, d6, d7, d8, .ref h2, d10, d11, d12, d13, .int 0, d15, d16, d17, d18, d19, d20, d21, d22, d23, d24, d25, d26, d27, d28, d29, d30, d31, d32, d33, d34, d35, d36, d37, d38, d39, d40, d41, d42, d43, d44, d45, d46, d47, d48, d49, d50, d51, d52, d53, d54, d55]))]) [0] (by decide) rfl
  have hFc := va_free (wc := [(h0, .inr (12, [d0, d1, .int 0, .int 0, .int (-1), d5, d6, d7, d8, .ref h2, d10, d11, d12, d13, .int 0, d15, d16, d17, d18, d19, d20, d21, d22, d23, d24, d25, d26, d27, d28, d29, d30, d31, d32, d33, d34, d35, d36, d37, d38, d39, d40, d41, d42, d43, d44, d45, d46, d47, d48, d49, d50, d51, d52, d53, d54, d55]))]) hD hS hA [0] rfl
  refine va_callv (va_runV (As := []) (rest := []) ⟨hx, hb, hml, hown, hts⟩ (c_X12_bad l dC dI cI cZ H.size h0 d0 d1 (.int 0) d5 d6 d7 d8 (.ref h2) d10 d11 d12 d13 (.int 0) d15 d16 d17 d18 d19 d20 d21 d22 d23 d24 d25 d26 d27 d28 d29 d30 d31 d32 d33 d34 d35 d36 d37 d38 d39 d40 d41 d42 d43 d44 d45 d46 d47 d48 d49 d50 d51 d52 d53 d54 d55) (cwV 0 hts gX12_clause_X12_bad rfl rfl rfl (by decide +kernel) ⟨Nat.le_of_ble_eq_true rfl, Nat.le_of_ble_eq_true rfl⟩) (zPreV hPc hK hDc hG (ci := 12) (q0 := 0) rfl rfl) rfl rfl hl.1 rfl (lv_room (Nat.le_of_ble_eq_true rfl)) dX12_clause_37 ⟨Nat.le_of_ble_eq_true rfl, Nat.le_of_ble_eq_true rfl⟩) hS (fun q _ h => hFc q h) hFc (fun u9 t9 H1 locs ht9 hvm hwr3 hB9 hz1 hk1 hS => ?_)
  obtain ⟨hP1, hD1⟩ := hB9
  rw [ht9] at hP1
  obtain ⟨hP, hD⟩ := va_join (wr := [(h2, .inl (cI, 5, .inl f2))]) (w1 := [(h0, .inr (12, [d0, d1, .int 0, .int 0, .int 0, d5, d6, d7, d8, .ref h2, d10, d11, d12, d13, .int 0, d15, d16, d17, d18, d19, d20, d21, d22, d23, d24, d25, d26, d27, d28, d29, d30, d31, d32, d33, d34, d35, d36, d37, d38, d39, d40, d41, d42, d43, d44, d45, d46, d47, d48, d49, d50, d51, d52, d53, d54, d55]))]) hP hD [0] [1] rfl rfl (by decide) (by decide) hk1 hFc hP1 hD1
  try clear hz1 hk1 hvm ht9 u9 hPc hDc hFc hP1 hD1
  generalize H1 = H at hP hS ⊢
  have hP : va_P (dC, dI) vwCl [(h2, .inl (cI, 5, .inl f2)), (h0, .inr (12, [d0, d1, .int 0, .int 0, .int 0, d5, d6, d7, d8, .ref h2, d10, d11, d12, d13, .int 0, d15, d16, d17, d18, d19, d20, d21, d22, d23, d24, d25, d26, d27, d28, d29, d30, d31, d32, d33, d34, d35, d36, d37, d38, d39, d40, d41, d42, d43, d44, d45, d46, d47, d48, d49, d50, d51, d52, d53, d54, d55]))] H := hP
  have hD : va_D A [(h2, .inl (cI, 5, .inl f2)), (h0, .inr (12, [d0, d1, .int 0, .int 0, .int 0, d5, d6, d7, d8, .ref h2, d10, d11, d12, d13, .int 0, d15, d16, d17, d18, d19, d20, d21, d22, d23, d24, d25, d26, d27, d28, d29, d30, d31, d32, d33, d34, d35, d36, d37, d38, d39, d40, d41, d42, d43, d44, d45, d46, d47, d48, d49, d50, d51, d52, d53, d54, d55]))] := hD
  refine lv_aload_n hx hb dX12_clause_40 rfl (lv_at hl 1 rfl) ?_
  refine lv_dup hx hb dX12_clause_41 rfl ?_
  refine va_get (D := (dC, dI)) (ci := 12) (v := .int 0) (C := RX12) (T := TX12) (N := 56) hx hb hts hinX12 hown hK hP 1 rfl rfl 3 (by decide) (hts (.fieldLink RX12 124 "DreamGuardModel" "at" "I") (by decide +kernel)) (fun _ h9 => h9) rfl dX12_clause_42 ?_
  refine lv_iconst (v := 1) hx hb dX12_clause_45 (by decide) ?_
  refine lv_iadd hx hb dX12_clause_46 ?_
  refine lv_topi (fun k4 ek4 => ?_)
  obtain rfl : k4 = 1 := ek4.trans (by decide)
  refine va_put (D := (dC, dI)) (ci := 12) (v := .int 1) (ty := .int) (C := RX12) (T := TX12) (N := 56) hx hb hts hinX12 tyX12 tyX12_ok nmX12 hown hK hP hD hS 1 rfl rfl 3 (by decide) (hts (.fieldLink RX12 124 "DreamGuardModel" "at" "I") (by decide +kernel)) (fun _ h9 => h9) rfl (by decide +kernel) rfl rfl (Nat.le_of_ble_eq_true rfl) dX12_clause_47 (fun H locs hP hD hS => ?_)
  have hP : va_P (dC, dI) vwCl [(h2, .inl (cI, 5, .inl f2)), (h0, .inr (12, [d0, d1, .int 0, .int 1, .int 0, d5, d6, d7, d8, .ref h2, d10, d11, d12, d13, .int 0, d15, d16, d17, d18, d19, d20, d21, d22, d23, d24, d25, d26, d27, d28, d29, d30, d31, d32, d33, d34, d35, d36, d37, d38, d39, d40, d41, d42, d43, d44, d45, d46, d47, d48, d49, d50, d51, d52, d53, d54, d55]))] H := hP
  have hD : va_D A [(h2, .inl (cI, 5, .inl f2)), (h0, .inr (12, [d0, d1, .int 0, .int 1, .int 0, d5, d6, d7, d8, .ref h2, d10, d11, d12, d13, .int 0, d15, d16, d17, d18, d19, d20, d21, d22, d23, d24, d25, d26, d27, d28, d29, d30, d31, d32, d33, d34, d35, d36, d37, d38, d39, d40, d41, d42, d43, d44, d45, d46, d47, d48, d49, d50, d51, d52, d53, d54, d55]))] := hD
  refine lv_aload_n hx hb dX12_clause_50 rfl (lv_at hl 1 rfl) ?_
  refine va_get (D := (dC, dI)) (ci := 12) (v := .int 0) (C := RX12) (T := TX12) (N := 56) hx hb hts hinX12 hown hK hP 1 rfl rfl 4 (by decide) (hts (.fieldLink RX12 131 "DreamGuardModel" "wrong" "I") (by decide +kernel)) (fun _ h9 => h9) rfl dX12_clause_51 ?_
  refine lv_iconst (v := (-1)) hx hb dX12_clause_54 (by decide) ?_
  refine lv_icmp_ne (tgt := 71) hx hb dX12_clause_55 (by decide) (fun _ => ?_) (fun c9 => absurd c9 (by decide))
  refine lv_aload_n hx hb dX12_clause_71 rfl (lv_at hl 1 rfl) ?_
  refine lv_dup hx hb dX12_clause_72 rfl ?_
  refine va_get (D := (dC, dI)) (ci := 12) (v := .int 1) (C := RX12) (T := TX12) (N := 56) hx hb hts hinX12 hown hK hP 1 rfl rfl 3 (by decide) (hts (.fieldLink RX12 124 "DreamGuardModel" "at" "I") (by decide +kernel)) (fun _ h9 => h9) rfl dX12_clause_73 ?_
  refine lv_iconst (v := 1) hx hb dX12_clause_76 (by decide) ?_
  refine lv_iadd hx hb dX12_clause_77 ?_
  refine lv_topi (fun k5 ek5 => ?_)
  obtain rfl : k5 = 2 := ek5.trans (by decide)
  refine va_put (D := (dC, dI)) (ci := 12) (v := .int 2) (ty := .int) (C := RX12) (T := TX12) (N := 56) hx hb hts hinX12 tyX12 tyX12_ok nmX12 hown hK hP hD hS 1 rfl rfl 3 (by decide) (hts (.fieldLink RX12 124 "DreamGuardModel" "at" "I") (by decide +kernel)) (fun _ h9 => h9) rfl (by decide +kernel) rfl rfl (Nat.le_of_ble_eq_true rfl) dX12_clause_78 (fun H locs hP hD hS => ?_)
  have hP : va_P (dC, dI) vwCl [(h2, .inl (cI, 5, .inl f2)), (h0, .inr (12, [d0, d1, .int 0, .int 2, .int 0, d5, d6, d7, d8, .ref h2, d10, d11, d12, d13, .int 0, d15, d16, d17, d18, d19, d20, d21, d22, d23, d24, d25, d26, d27, d28, d29, d30, d31, d32, d33, d34, d35, d36, d37, d38, d39, d40, d41, d42, d43, d44, d45, d46, d47, d48, d49, d50, d51, d52, d53, d54, d55]))] H := hP
  have hD : va_D A [(h2, .inl (cI, 5, .inl f2)), (h0, .inr (12, [d0, d1, .int 0, .int 2, .int 0, d5, d6, d7, d8, .ref h2, d10, d11, d12, d13, .int 0, d15, d16, d17, d18, d19, d20, d21, d22, d23, d24, d25, d26, d27, d28, d29, d30, d31, d32, d33, d34, d35, d36, d37, d38, d39, d40, d41, d42, d43, d44, d45, d46, d47, d48, d49, d50, d51, d52, d53, d54, d55]))] := hD
  refine lv_aload_n hx hb dX12_clause_81 rfl (lv_at hl 1 rfl) ?_
  refine va_get (D := (dC, dI)) (ci := 12) (v := .int 0) (C := RX12) (T := TX12) (N := 56) hx hb hts hinX12 hown hK hP 1 rfl rfl 4 (by decide) (hts (.fieldLink RX12 131 "DreamGuardModel" "wrong" "I") (by decide +kernel)) (fun _ h9 => h9) rfl dX12_clause_82 ?_
  refine lv_iconst (v := (-1)) hx hb dX12_clause_85 (by decide) ?_
  refine lv_icmp_eq (tgt := 90) hx hb dX12_clause_86 (by decide) (fun c9 => absurd c9 (by decide)) (fun _ => ?_)
  have hP9 := hP.sub (ws' := [(h0, .inr (12, [d0, d1, .int 0, .int 2, .int 0, d5, d6, d7, d8, .ref h2, d10, d11, d12, d13, .int 0, d15, d16, d17, d18, d19, d20, d21, d22, d23, d24, d25, d26, d27, d28, d29, d30, d31, d32, d33, d34, d35, d36, d37, d38, d39, d40, d41, d42, d43, d44, d45, d46, d47, d48, d49, d50, d51, d52, d53, d54, d55]))]) [1] rfl
  have hD9 := hD.sub (ws' := [(h0, .inr (12, [d0, d1, .int 0, .int 2, .int 0, d5, d6, d7, d8, .ref h2, d10, d11, d12, d13, .int 0, d15, d16, d17, d18, d19, d20, d21, d22, d23, d24, d25, d26, d27, d28, d29, d30, d31, d32, d33, d34, d35, d36, d37, d38, d39, d40, d41, d42, d43, d44, d45, d46, d47, d48, d49, d50, d51, d52, d53, d54, d55]))]) [1] (by decide) rfl
  exact W.vret hx hb hr (fun t ht hW => ⟨⟨(), rfl, trivial, ⟨by rw [ht]; exact hP9, hD9⟩⟩, hS.F ht⟩) hS.2.2 dX12_clause_89

def s_X12_readLaw0 : Int32 := 0
set_option maxHeartbeats 4000000 in
set_option maxRecDepth 100000 in
theorem c_X12_readLaw0 (l : Launch) (dC : Nat → ClassId) (dI : Nat → Nat → Nat) (cI cZ : ClassId) (sz : Nat) (h0 : Nat) (h1 : Nat) (h2 : Nat) (d0 : Value) (d1 : Value) (d3 : Value) (d4 : Value) (d5 : Value) (d6 : Value) (d7 : Value) (d10 : Value) (d11 : Value) (d12 : Value) (d13 : Value) (d14 : Value) (d15 : Value) (d16 : Value) (d17 : Value) (d18 : Value) (d19 : Value) (d20 : Value) (d21 : Value) (d22 : Value) (d23 : Value) (d24 : Value) (d25 : Value) (d26 : Value) (d27 : Value) (d28 : Value) (d29 : Value) (d30 : Value) (d31 : Value) (d32 : Value) (d33 : Value) (d34 : Value) (d35 : Value) (d36 : Value) (d37 : Value) (d38 : Value) (d39 : Value) (d40 : Value) (d41 : Value) (d42 : Value) (d43 : Value) (d44 : Value) (d45 : Value) (d46 : Value) (d47 : Value) (d48 : Value) (d49 : Value) (d50 : Value) (d51 : Value) (d52 : Value) (d53 : Value) (d54 : Value) (d55 : Value) : Met l yX12_readLaw wsX12_readLaw ({ frames := 3, cells := 0, slots := 0, locals := 62 }) (va_Pc [.ref h0, .int 0] (zPre dC dI cI cZ sz [(h0, .inr (12, [d0, d1, .int 0, d3, d4, d5, d6, d7, .ref h1, .ref h2, d10, d11, d12, d13, d14, d15, d16, d17, d18, d19, d20, d21, d22, d23, d24, d25, d26, d27, d28, d29, d30, d31, d32, d33, d34, d35, d36, d37, d38, d39, d40, d41, d42, d43, d44, d45, d46, d47, d48, d49, d50, d51, d52, d53, d54, d55])), (h1, .inl (cI, 5, .inl (fun _ => 0))), (h2, .inl (cI, 5, .inl (fun _ => 0)))])) (va_Qi (fun (r : Int32) (_ : Unit) => r = s_X12_readLaw0) (fun (_ : Unit) _ => True) (va_A [(h0, .inr (12, [d0, d1, .int 0, d3, d4, d5, d6, d7, .ref h1, .ref h2, d10, d11, d12, d13, d14, d15, d16, d17, d18, d19, d20, d21, d22, d23, d24, d25, d26, d27, d28, d29, d30, d31, d32, d33, d34, d35, d36, d37, d38, d39, d40, d41, d42, d43, d44, d45, d46, d47, d48, d49, d50, d51, d52, d53, d54, d55])), (h1, .inl (cI, 5, .inl (fun _ => 0))), (h2, .inl (cI, 5, .inl (fun _ => 0)))] sz)) 0 0 (va_A [(h0, .inr (12, [d0, d1, .int 0, d3, d4, d5, d6, d7, .ref h1, .ref h2, d10, d11, d12, d13, d14, d15, d16, d17, d18, d19, d20, d21, d22, d23, d24, d25, d26, d27, d28, d29, d30, d31, d32, d33, d34, d35, d36, d37, d38, d39, d40, d41, d42, d43, d44, d45, d46, d47, d48, d49, d50, d51, d52, d53, d54, d55])), (h1, .inl (cI, 5, .inl (fun _ => 0))), (h2, .inl (cI, 5, .inl (fun _ => 0)))] sz) := by
  refine Met.ofW (cc := cX12_readLaw) (maxL := 2) (ret := (some .int)) (by decide) rfl ?_
  intro p e s m args below meth c s₁ B hml hv
  obtain ⟨rfl, hsz, hP, hK, hD0, hG⟩ := hv
  have hx := B.exec
  have hb := B.bytes
  have hr := B.returns
  have hts := atoms_spec (ws := wsX12_readLaw) B.pre
  have hown : s.vm.findClass RX12 = some m.cls := findClass_of_methodNamed B.named
  have hlocks := B.notSynchronized
  have hinX12 : ∀ w ∈ wsX120, w ∈ wsX12_readLaw := by decide +kernel
  subst hsz
  have hD := hD0.self (sz := s.heap.size)
  generalize hAe : va_A [(h0, .inr (12, [d0, d1, .int 0, d3, d4, d5, d6, d7, .ref h1, .ref h2, d10, d11, d12, d13, d14, d15, d16, d17, d18, d19, d20, d21, d22, d23, d24, d25, d26, d27, d28, d29, d30, d31, d32, d33, d34, d35, d36, d37, d38, d39, d40, d41, d42, d43, d44, d45, d46, d47, d48, d49, d50, d51, d52, d53, d54, d55])), (h1, .inl (cI, 5, .inl (fun _ => 0))), (h2, .inl (cI, 5, .inl (fun _ => 0)))] s.heap.size = A at hD ⊢
  have hA : ∀ q : Nat, s.heap.size ≤ q → A q := fun q h => by rw [← hAe]; exact Or.inr h
  have hS : va_S A s.heap s.heap [] := va_S.rf
  have hP : va_P (dC, dI) vwCl [(h0, .inr (12, [d0, d1, .int 0, d3, d4, d5, d6, d7, .ref h1, .ref h2, d10, d11, d12, d13, d14, d15, d16, d17, d18, d19, d20, d21, d22, d23, d24, d25, d26, d27, d28, d29, d30, d31, d32, d33, d34, d35, d36, d37, d38, d39, d40, d41, d42, d43, d44, d45, d46, d47, d48, d49, d50, d51, d52, d53, d54, d55])), (h1, .inl (cI, 5, .inl (fun _ => 0))), (h2, .inl (cI, 5, .inl (fun _ => 0)))] s.heap := hP
  have hl := lv_entry ([.ref h0, .int 0]) (n := 2) (Nat.le_of_ble_eq_true rfl)
  rw [lg_entry_eq]
  generalize (lg_sl ([.ref h0, .int 0]) ++ List.replicate (2 - (lg_sl ([.ref h0, .int 0])).length) Slot.unset).toArray = ls at hl ⊢
  have hl : lv_has ls 2 [(0, .ref h0), (1, .int 0)] := hl
  refine lv_aload_n hx hb dX12_readLaw_0 rfl (lv_at hl 0 rfl) ?_
  refine lv_iload_n hx hb dX12_readLaw_1 rfl (lv_at hl 1 rfl) ?_
  have hPc := hP.sub (ws' := [(h0, .inr (12, [d0, d1, .int 0, d3, d4, d5, d6, d7, .ref h1, .ref h2, d10, d11, d12, d13, d14, d15, d16, d17, d18, d19, d20, d21, d22, d23, d24, d25, d26, d27, d28, d29, d30, d31, d32, d33, d34, d35, d36, d37, d38, d39, d40, d41, d42, d43, d44, d45, d46, d47, d48, d49, d50, d51, d52, d53, d54, d55])), (h1, .inl (cI, 5, .inl (fun _ => 0))), (h2, .inl (cI, 5, .inl (fun _ => 0)))]) [0, 1, 2] rfl
  have hDc := hD.sub (ws' := [(h0, .inr (12, [d0, d1, .int 0, d3, d4, d5, d6, d7, .ref h1, .ref h2, d10, d11, d12, d13, d14, d15, d16, d17, d18, d19, d20, d21, d22, d23, d24, d25, d26, d27, d28, d29, d30, d31, d32, d33, d34, d35, d36, d37, d38, d39, d40, d41, d42, d43, d44, d45, d46, d47, d48, d49, d50, d51, d52, d53, d54, d55])), (h1, .inl (cI, 5, .inl (fun _ => 0))), (h2, .inl (cI, 5, .inl (fun _ => 0)))]) [0, 1, 2] (by decide) rfl
  have hFc := va_free (wc := [(h0, .inr (12, [d0, d1, .int 0, d3, d4, d5, d6, d7, .ref h1, .ref h2, d10, d11, d12, d13, d14, d15, d16, d17, d18, d19, d20, d21, d22, d23, d24, d25, d26, d27, d28, d29, d30, d31, d32, d33, d34, d35, d36, d37, d38, d39, d40, d41, d42, d43, d44, d45, d46, d47, d48, d49, d50, d51, d52, d53, d54, d55])), (h1, .inl (cI, 5, .inl (fun _ => 0))), (h2, .inl (cI, 5, .inl (fun _ => 0)))]) hD hS hA [0, 1, 2] rfl
  refine va_callv (va_runV (As := [.int 0]) (rest := []) ⟨hx, hb, hml, hown, hts⟩ (c_X12_open0 l dC dI cI cZ s.heap.size h0 h1 h2 d0 d1 (.int 0) d3 d4 d5 d6 d7 d10 d11 d12 d13 d14 d15 d16 d17 d18 d19 d20 d21 d22 d23 d24 d25 d26 d27 d28 d29 d30 d31 d32 d33 d34 d35 d36 d37 d38 d39 d40 d41 d42 d43 d44 d45 d46 d47 d48 d49 d50 d51 d52 d53 d54 d55) (cwV 1 hts gX12_readLaw_X12_open rfl rfl rfl (by decide +kernel) ⟨Nat.le_of_ble_eq_true rfl, Nat.le_of_ble_eq_true rfl⟩) (zPreV hPc hK hDc hG (ci := 12) (q0 := 0) rfl rfl) rfl rfl hl.1 rfl (lv_room (Nat.le_of_ble_eq_true rfl)) dX12_readLaw_2 ⟨Nat.le_of_ble_eq_true rfl, Nat.le_of_ble_eq_true rfl⟩) hS (fun q _ h => hFc q h) hFc (fun u9 t9 H1 locs ht9 hvm hwr1 hB9 hz1 hk1 hS => ?_)
  obtain ⟨v2, hP1, hD1⟩ := hB9
  rw [ht9] at hP1
  obtain ⟨hP, hD⟩ := va_join (wr := []) (w1 := [(h0, .inr (12, [d0, d1, .int 0, .int 0, .int (-1), .int 0, d6, d7, .ref h1, .ref h2, d10, d11, d12, d13, .int 0, d15, d16, d17, d18, d19, d20, d21, d22, d23, d24, d25, d26, d27, d28, d29, d30, d31, d32, d33, d34, d35, d36, d37, d38, d39, d40, d41, d42, d43, d44, d45, d46, d47, d48, d49, d50, d51, d52, d53, d54, d55])), (h2, .inl (cI, 5, .inl v2))]) hP hD [0, 1, 2] [] rfl rfl (by decide) (by decide) hk1 hFc hP1 hD1
  try clear hz1 hk1 hvm ht9 u9 hPc hDc hFc hP1 hD1
  generalize H1 = H at hP hS ⊢
  have hP : va_P (dC, dI) vwCl [(h0, .inr (12, [d0, d1, .int 0, .int 0, .int (-1), .int 0, d6, d7, .ref h1, .ref h2, d10, d11, d12, d13, .int 0, d15, d16, d17, d18, d19, d20, d21, d22, d23, d24, d25, d26, d27, d28, d29, d30, d31, d32, d33, d34, d35, d36, d37, d38, d39, d40, d41, d42, d43, d44, d45, d46, d47, d48, d49, d50, d51, d52, d53, d54, d55])), (h2, .inl (cI, 5, .inl v2))] H := hP
  have hD : va_D A [(h0, .inr (12, [d0, d1, .int 0, .int 0, .int (-1), .int 0, d6, d7, .ref h1, .ref h2, d10, d11, d12, d13, .int 0, d15, d16, d17, d18, d19, d20, d21, d22, d23, d24, d25, d26, d27, d28, d29, d30, d31, d32, d33, d34, d35, d36, d37, d38, d39, d40, d41, d42, d43, d44, d45, d46, d47, d48, d49, d50, d51, d52, d53, d54, d55])), (h2, .inl (cI, 5, .inl v2))] := hD
  refine lv_aload_n hx hb dX12_readLaw_5 rfl (lv_at hl 0 rfl) ?_
  have hPc := hP.sub (ws' := [(h0, .inr (12, [d0, d1, .int 0, .int 0, .int (-1), .int 0, d6, d7, .ref h1, .ref h2, d10, d11, d12, d13, .int 0, d15, d16, d17, d18, d19, d20, d21, d22, d23, d24, d25, d26, d27, d28, d29, d30, d31, d32, d33, d34, d35, d36, d37, d38, d39, d40, d41, d42, d43, d44, d45, d46, d47, d48, d49, d50, d51, d52, d53, d54, d55])), (h2, .inl (cI, 5, .inl v2))]) [0, 1] rfl
  have hDc := hD.sub (ws' := [(h0, .inr (12, [d0, d1, .int 0, .int 0, .int (-1), .int 0, d6, d7, .ref h1, .ref h2, d10, d11, d12, d13, .int 0, d15, d16, d17, d18, d19, d20, d21, d22, d23, d24, d25, d26, d27, d28, d29, d30, d31, d32, d33, d34, d35, d36, d37, d38, d39, d40, d41, d42, d43, d44, d45, d46, d47, d48, d49, d50, d51, d52, d53, d54, d55])), (h2, .inl (cI, 5, .inl v2))]) [0, 1] (by decide) rfl
  have hFc := va_free (wc := [(h0, .inr (12, [d0, d1, .int 0, .int 0, .int (-1), .int 0, d6, d7, .ref h1, .ref h2, d10, d11, d12, d13, .int 0, d15, d16, d17, d18, d19, d20, d21, d22, d23, d24, d25, d26, d27, d28, d29, d30, d31, d32, d33, d34, d35, d36, d37, d38, d39, d40, d41, d42, d43, d44, d45, d46, d47, d48, d49, d50, d51, d52, d53, d54, d55])), (h2, .inl (cI, 5, .inl v2))]) hD hS hA [0, 1] rfl
  refine va_callv (va_runV (As := []) (rest := []) ⟨hx, hb, hml, hown, hts⟩ (c_X12_clause0 l dC dI cI cZ H.size h0 h2 v2 d0 d1 (.int 0) d6 d7 (.ref h1) d10 d11 d12 d13 d15 d16 d17 d18 d19 d20 d21 d22 d23 d24 d25 d26 d27 d28 d29 d30 d31 d32 d33 d34 d35 d36 d37 d38 d39 d40 d41 d42 d43 d44 d45 d46 d47 d48 d49 d50 d51 d52 d53 d54 d55) (cwV 0 hts gX12_readLaw_X12_clause rfl rfl rfl (by decide +kernel) ⟨Nat.le_of_ble_eq_true rfl, Nat.le_of_ble_eq_true rfl⟩) (zPreV hPc hK hDc hG (ci := 12) (q0 := 0) rfl rfl) rfl rfl hl.1 rfl (lv_room (Nat.le_of_ble_eq_true rfl)) dX12_readLaw_6 ⟨Nat.le_of_ble_eq_true rfl, Nat.le_of_ble_eq_true rfl⟩) hS (fun q _ h => hFc q h) hFc (fun u9 t9 H1 locs ht9 hvm hwr3 hB9 hz1 hk1 hS => ?_)
  obtain ⟨hP1, hD1⟩ := hB9
  rw [ht9] at hP1
  obtain ⟨hP, hD⟩ := va_join (wr := []) (w1 := [(h0, .inr (12, [d0, d1, .int 0, .int 2, .int 0, .int 0, d6, d7, .ref h1, .ref h2, d10, d11, d12, d13, .int 0, d15, d16, d17, d18, d19, d20, d21, d22, d23, d24, d25, d26, d27, d28, d29, d30, d31, d32, d33, d34, d35, d36, d37, d38, d39, d40, d41, d42, d43, d44, d45, d46, d47, d48, d49, d50, d51, d52, d53, d54, d55]))]) hP hD [0, 1] [] rfl rfl (by decide) (by decide) hk1 hFc hP1 hD1
  try clear hz1 hk1 hvm ht9 u9 hPc hDc hFc hP1 hD1
  generalize H1 = H at hP hS ⊢
  have hP : va_P (dC, dI) vwCl [(h0, .inr (12, [d0, d1, .int 0, .int 2, .int 0, .int 0, d6, d7, .ref h1, .ref h2, d10, d11, d12, d13, .int 0, d15, d16, d17, d18, d19, d20, d21, d22, d23, d24, d25, d26, d27, d28, d29, d30, d31, d32, d33, d34, d35, d36, d37, d38, d39, d40, d41, d42, d43, d44, d45, d46, d47, d48, d49, d50, d51, d52, d53, d54, d55]))] H := hP
  have hD : va_D A [(h0, .inr (12, [d0, d1, .int 0, .int 2, .int 0, .int 0, d6, d7, .ref h1, .ref h2, d10, d11, d12, d13, .int 0, d15, d16, d17, d18, d19, d20, d21, d22, d23, d24, d25, d26, d27, d28, d29, d30, d31, d32, d33, d34, d35, d36, d37, d38, d39, d40, d41, d42, d43, d44, d45, d46, d47, d48, d49, d50, d51, d52, d53, d54, d55]))] := hD
  refine lv_aload_n hx hb dX12_readLaw_9 rfl (lv_at hl 0 rfl) ?_
  refine va_get (D := (dC, dI)) (ci := 12) (v := .int 0) (C := RX12) (T := TX12) (N := 56) hx hb hts hinX12 hown hK hP 0 rfl rfl 4 (by decide) (hts (.fieldLink RX12 131 "DreamGuardModel" "wrong" "I") (by decide +kernel)) (fun _ h9 => h9) rfl dX12_readLaw_10 ?_
  refine lv_iconst (v := (-1)) hx hb dX12_readLaw_13 (by decide) ?_
  refine lv_icmp_ne (tgt := 43) hx hb dX12_readLaw_14 (by decide) (fun _ => ?_) (fun c9 => absurd c9 (by decide))
  refine lv_aload_n hx hb dX12_readLaw_43 rfl (lv_at hl 0 rfl) ?_
  have hPc := hP.sub (ws' := [(h0, .inr (12, [d0, d1, .int 0, .int 2, .int 0, .int 0, d6, d7, .ref h1, .ref h2, d10, d11, d12, d13, .int 0, d15, d16, d17, d18, d19, d20, d21, d22, d23, d24, d25, d26, d27, d28, d29, d30, d31, d32, d33, d34, d35, d36, d37, d38, d39, d40, d41, d42, d43, d44, d45, d46, d47, d48, d49, d50, d51, d52, d53, d54, d55]))]) [0] rfl
  have hDc := hD.sub (ws' := [(h0, .inr (12, [d0, d1, .int 0, .int 2, .int 0, .int 0, d6, d7, .ref h1, .ref h2, d10, d11, d12, d13, .int 0, d15, d16, d17, d18, d19, d20, d21, d22, d23, d24, d25, d26, d27, d28, d29, d30, d31, d32, d33, d34, d35, d36, d37, d38, d39, d40, d41, d42, d43, d44, d45, d46, d47, d48, d49, d50, d51, d52, d53, d54, d55]))]) [0] (by decide) rfl
  refine va_calli (va_runV (As := []) (rest := []) ⟨hx, hb, hml, hown, hts⟩ (c_X12_atEnd l dC dI cI cZ H.size h0 d0 d1 (.int 0) (.int 2) (.int 0) d6 d7 (.ref h1) (.ref h2) d10 d11 d12 d13 (.int 0) d15 d16 d17 d18 d19 d20 d21 d22 d23 d24 d25 d26 d27 d28 d29 d30 d31 d32 d33 d34 d35 d36 d37 d38 d39 d40 d41 d42 d43 d44 d45 d46 d47 d48 d49 d50 d51 d52 d53 d54 d55) (cwV 0 hts gX12_readLaw_X12_atEnd rfl rfl rfl (by decide +kernel) ⟨Nat.le_of_ble_eq_true rfl, Nat.le_of_ble_eq_true rfl⟩) (zPreV hPc hK hDc hG (ci := 12) (q0 := 0) rfl rfl) rfl rfl hl.1 rfl (lv_room (Nat.le_of_ble_eq_true rfl)) dX12_readLaw_44 ⟨Nat.le_of_ble_eq_true rfl, Nat.le_of_ble_eq_true rfl⟩) hS (fun _ _ h => h.elim) (fun _ h => h.elim) (fun r4 u9 t9 H1 locs ht9 hvm hwr4 hB9 hz1 hk1 hS => ?_)
  replace hP := zKept hP hk1
  try clear hB9 hz1 hk1 hvm ht9 u9 hPc hDc
  generalize H1 = H at hP hS ⊢
  obtain rfl : r4 = 0 := hwr4.trans rfl
  exact W.iret (v := 0) hx hb hr (fun t ht hW => ⟨⟨0, (), rfl, (by unfold s_X12_readLaw0; first | rfl | simp), trivial⟩, hS.F ht⟩) hS.2.2 dX12_readLaw_47

set_option maxHeartbeats 4000000 in
set_option maxRecDepth 100000 in
theorem c_X12_open4 (l : Launch) (dC : Nat → ClassId) (dI : Nat → Nat → Nat) (cI cZ : ClassId) (sz : Nat) (h0 : Nat) (h1 : Nat) (h2 : Nat) (d0 : Value) (d1 : Value) (d2 : Value) (d3 : Value) (d4 : Value) (d5 : Value) (d6 : Value) (d7 : Value) (d10 : Value) (d11 : Value) (d12 : Value) (d13 : Value) (d14 : Value) (d15 : Value) (d16 : Value) (d17 : Value) (d18 : Value) (d19 : Value) (d20 : Value) (d21 : Value) (d22 : Value) (d23 : Value) (d24 : Value) (d25 : Value) (d26 : Value) (d27 : Value) (d28 : Value) (d29 : Value) (d30 : Value) (d31 : Value) (d32 : Value) (d33 : Value) (d34 : Value) (d35 : Value) (d36 : Value) (d37 : Value) (d38 : Value) (d39 : Value) (d40 : Value) (d41 : Value) (d42 : Value) (d43 : Value) (d44 : Value) (d45 : Value) (d46 : Value) (d47 : Value) (d48 : Value) (d49 : Value) (d50 : Value) (d51 : Value) (d52 : Value) (d53 : Value) (d54 : Value) (d55 : Value) : Met l yX12_open wsX12_open ({ frames := 0, cells := 0, slots := 0, locals := 0 }) (va_Pc [.ref h0, .int 4] (zPre dC dI cI cZ sz [(h0, .inr (12, [d0, d1, d2, d3, d4, d5, d6, d7, .ref h1, .ref h2, d10, d11, d12, d13, d14, d15, d16, d17, d18, d19, d20, d21, d22, d23, d24, d25, d26, d27, d28, d29, d30, d31, d32, d33, d34, d35, d36, d37, d38, d39, d40, d41, d42, d43, d44, d45, d46, d47, d48, d49, d50, d51, d52, d53, d54, d55])), (h1, .inl (cI, 5, .inl (fun _ => 0))), (h2, .inl (cI, 5, .inl (fun _ => 0)))])) (va_Qv (fun (_ : Unit) => True) (fun (_ : Unit) t => ∃ g2 : Nat → Int32, (va_P (dC, dI) vwCl [(h0, .inr (12, [d0, d1, d2, .int 0, .int (-1), .int 0, d6, d7, .ref h1, .ref h2, d10, d11, d12, d13, .int 4, d15, d16, d17, d18, d19, d20, d21, d22, d23, d24, d25, d26, d27, d28, d29, d30, d31, d32, d33, d34, d35, d36, d37, d38, d39, d40, d41, d42, d43, d44, d45, d46, d47, d48, d49, d50, d51, d52, d53, d54, d55])), (h2, .inl (cI, 5, .inl g2))] t.heap ∧ va_D (va_A [(h0, .inr (12, [d0, d1, d2, d3, d4, d5, d6, d7, .ref h1, .ref h2, d10, d11, d12, d13, d14, d15, d16, d17, d18, d19, d20, d21, d22, d23, d24, d25, d26, d27, d28, d29, d30, d31, d32, d33, d34, d35, d36, d37, d38, d39, d40, d41, d42, d43, d44, d45, d46, d47, d48, d49, d50, d51, d52, d53, d54, d55])), (h1, .inl (cI, 5, .inl (fun _ => 0))), (h2, .inl (cI, 5, .inl (fun _ => 0)))] sz) [(h0, .inr (12, [d0, d1, d2, .int 0, .int (-1), .int 0, d6, d7, .ref h1, .ref h2, d10, d11, d12, d13, .int 4, d15, d16, d17, d18, d19, d20, d21, d22, d23, d24, d25, d26, d27, d28, d29, d30, d31, d32, d33, d34, d35, d36, d37, d38, d39, d40, d41, d42, d43, d44, d45, d46, d47, d48, d49, d50, d51, d52, d53, d54, d55])), (h2, .inl (cI, 5, .inl g2))])) (va_A [(h0, .inr (12, [d0, d1, d2, d3, d4, d5, d6, d7, .ref h1, .ref h2, d10, d11, d12, d13, d14, d15, d16, d17, d18, d19, d20, d21, d22, d23, d24, d25, d26, d27, d28, d29, d30, d31, d32, d33, d34, d35, d36, d37, d38, d39, d40, d41, d42, d43, d44, d45, d46, d47, d48, d49, d50, d51, d52, d53, d54, d55])), (h1, .inl (cI, 5, .inl (fun _ => 0))), (h2, .inl (cI, 5, .inl (fun _ => 0)))] sz)) 0 0 (va_A [(h0, .inr (12, [d0, d1, d2, d3, d4, d5, d6, d7, .ref h1, .ref h2, d10, d11, d12, d13, d14, d15, d16, d17, d18, d19, d20, d21, d22, d23, d24, d25, d26, d27, d28, d29, d30, d31, d32, d33, d34, d35, d36, d37, d38, d39, d40, d41, d42, d43, d44, d45, d46, d47, d48, d49, d50, d51, d52, d53, d54, d55])), (h1, .inl (cI, 5, .inl (fun _ => 0))), (h2, .inl (cI, 5, .inl (fun _ => 0)))] sz) := by
  refine Met.ofW (cc := cX12_open) (maxL := 2) (ret := none) (by decide) rfl ?_
  intro p e s m args below meth c s₁ B hml hv
  obtain ⟨rfl, hsz, hP, hK, hD0, hG⟩ := hv
  have hx := B.exec
  have hb := B.bytes
  have hr := B.returns
  have hts := atoms_spec (ws := wsX12_open) B.pre
  have hown : s.vm.findClass RX12 = some m.cls := findClass_of_methodNamed B.named
  have hlocks := B.notSynchronized
  have hinX12 : ∀ w ∈ wsX120, w ∈ wsX12_open := by decide +kernel
  subst hsz
  have hD := hD0.self (sz := s.heap.size)
  generalize hAe : va_A [(h0, .inr (12, [d0, d1, d2, d3, d4, d5, d6, d7, .ref h1, .ref h2, d10, d11, d12, d13, d14, d15, d16, d17, d18, d19, d20, d21, d22, d23, d24, d25, d26, d27, d28, d29, d30, d31, d32, d33, d34, d35, d36, d37, d38, d39, d40, d41, d42, d43, d44, d45, d46, d47, d48, d49, d50, d51, d52, d53, d54, d55])), (h1, .inl (cI, 5, .inl (fun _ => 0))), (h2, .inl (cI, 5, .inl (fun _ => 0)))] s.heap.size = A at hD ⊢
  have hA : ∀ q : Nat, s.heap.size ≤ q → A q := fun q h => by rw [← hAe]; exact Or.inr h
  have hS : va_S A s.heap s.heap [] := va_S.rf
  have hP : va_P (dC, dI) vwCl [(h0, .inr (12, [d0, d1, d2, d3, d4, d5, d6, d7, .ref h1, .ref h2, d10, d11, d12, d13, d14, d15, d16, d17, d18, d19, d20, d21, d22, d23, d24, d25, d26, d27, d28, d29, d30, d31, d32, d33, d34, d35, d36, d37, d38, d39, d40, d41, d42, d43, d44, d45, d46, d47, d48, d49, d50, d51, d52, d53, d54, d55])), (h1, .inl (cI, 5, .inl (fun _ => 0))), (h2, .inl (cI, 5, .inl (fun _ => 0)))] s.heap := hP
  have hl := lv_entry ([.ref h0, .int 4]) (n := 2) (Nat.le_of_ble_eq_true rfl)
  rw [lg_entry_eq]
  generalize (lg_sl ([.ref h0, .int 4]) ++ List.replicate (2 - (lg_sl ([.ref h0, .int 4])).length) Slot.unset).toArray = ls at hl ⊢
  have hl : lv_has ls 2 [(0, .ref h0), (1, .int 4)] := hl
  refine lv_aload_n hx hb dX12_open_0 rfl (lv_at hl 0 rfl) ?_
  refine lv_iload_n hx hb dX12_open_1 rfl (lv_at hl 1 rfl) ?_
  refine va_put (D := (dC, dI)) (ci := 12) (v := .int 4) (ty := .int) (C := RX12) (T := TX12) (N := 56) hx hb hts hinX12 tyX12 tyX12_ok nmX12 hown hK hP hD hS 0 rfl rfl 14 (by decide) (hts (.fieldLink RX12 134 "DreamGuardModel" "text" "I") (by decide +kernel)) (fun _ h9 => h9) rfl (by decide +kernel) rfl rfl (Nat.le_of_ble_eq_true rfl) dX12_open_2 (fun H locs hP hD hS => ?_)
  have hP : va_P (dC, dI) vwCl [(h0, .inr (12, [d0, d1, d2, d3, d4, d5, d6, d7, .ref h1, .ref h2, d10, d11, d12, d13, .int 4, d15, d16, d17, d18, d19, d20, d21, d22, d23, d24, d25, d26, d27, d28, d29, d30, d31, d32, d33, d34, d35, d36, d37, d38, d39, d40, d41, d42, d43, d44, d45, d46, d47, d48, d49, d50, d51, d52, d53, d54, d55])), (h1, .inl (cI, 5, .inl (fun _ => 0))), (h2, .inl (cI, 5, .inl (fun _ => 0)))] H := hP
  have hD : va_D A [(h0, .inr (12, [d0, d1, d2, d3, d4, d5, d6, d7, .ref h1, .ref h2, d10, d11, d12, d13, .int 4, d15, d16, d17, d18, d19, d20, d21, d22, d23, d24, d25, d26, d27, d28, d29, d30, d31, d32, d33, d34, d35, d36, d37, d38, d39, d40, d41, d42, d43, d44, d45, d46, d47, d48, d49, d50, d51, d52, d53, d54, d55])), (h1, .inl (cI, 5, .inl (fun _ => 0))), (h2, .inl (cI, 5, .inl (fun _ => 0)))] := hD
  refine lv_aload_n hx hb dX12_open_5 rfl (lv_at hl 0 rfl) ?_
  refine lv_iconst (v := 0) hx hb dX12_open_6 (by decide) ?_
  refine va_put (D := (dC, dI)) (ci := 12) (v := .int 0) (ty := .int) (C := RX12) (T := TX12) (N := 56) hx hb hts hinX12 tyX12 tyX12_ok nmX12 hown hK hP hD hS 0 rfl rfl 3 (by decide) (hts (.fieldLink RX12 124 "DreamGuardModel" "at" "I") (by decide +kernel)) (fun _ h9 => h9) rfl (by decide +kernel) rfl rfl (Nat.le_of_ble_eq_true rfl) dX12_open_7 (fun H locs hP hD hS => ?_)
  have hP : va_P (dC, dI) vwCl [(h0, .inr (12, [d0, d1, d2, .int 0, d4, d5, d6, d7, .ref h1, .ref h2, d10, d11, d12, d13, .int 4, d15, d16, d17, d18, d19, d20, d21, d22, d23, d24, d25, d26, d27, d28, d29, d30, d31, d32, d33, d34, d35, d36, d37, d38, d39, d40, d41, d42, d43, d44, d45, d46, d47, d48, d49, d50, d51, d52, d53, d54, d55])), (h1, .inl (cI, 5, .inl (fun _ => 0))), (h2, .inl (cI, 5, .inl (fun _ => 0)))] H := hP
  have hD : va_D A [(h0, .inr (12, [d0, d1, d2, .int 0, d4, d5, d6, d7, .ref h1, .ref h2, d10, d11, d12, d13, .int 4, d15, d16, d17, d18, d19, d20, d21, d22, d23, d24, d25, d26, d27, d28, d29, d30, d31, d32, d33, d34, d35, d36, d37, d38, d39, d40, d41, d42, d43, d44, d45, d46, d47, d48, d49, d50, d51, d52, d53, d54, d55])), (h1, .inl (cI, 5, .inl (fun _ => 0))), (h2, .inl (cI, 5, .inl (fun _ => 0)))] := hD
  refine lv_aload_n hx hb dX12_open_10 rfl (lv_at hl 0 rfl) ?_
  refine lv_iconst (v := (-1)) hx hb dX12_open_11 (by decide) ?_
  refine va_put (D := (dC, dI)) (ci := 12) (v := .int (-1)) (ty := .int) (C := RX12) (T := TX12) (N := 56) hx hb hts hinX12 tyX12 tyX12_ok nmX12 hown hK hP hD hS 0 rfl rfl 4 (by decide) (hts (.fieldLink RX12 131 "DreamGuardModel" "wrong" "I") (by decide +kernel)) (fun _ h9 => h9) rfl (by decide +kernel) rfl rfl (Nat.le_of_ble_eq_true rfl) dX12_open_12 (fun H locs hP hD hS => ?_)
  have hP : va_P (dC, dI) vwCl [(h0, .inr (12, [d0, d1, d2, .int 0, .int (-1), d5, d6, d7, .ref h1, .ref h2, d10, d11, d12, d13, .int 4, d15, d16, d17, d18, d19, d20, d21, d22, d23, d24, d25, d26, d27, d28, d29, d30, d31, d32, d33, d34, d35, d36, d37, d38, d39, d40, d41, d42, d43, d44, d45, d46, d47, d48, d49, d50, d51, d52, d53, d54, d55])), (h1, .inl (cI, 5, .inl (fun _ => 0))), (h2, .inl (cI, 5, .inl (fun _ => 0)))] H := hP
  have hD : va_D A [(h0, .inr (12, [d0, d1, d2, .int 0, .int (-1), d5, d6, d7, .ref h1, .ref h2, d10, d11, d12, d13, .int 4, d15, d16, d17, d18, d19, d20, d21, d22, d23, d24, d25, d26, d27, d28, d29, d30, d31, d32, d33, d34, d35, d36, d37, d38, d39, d40, d41, d42, d43, d44, d45, d46, d47, d48, d49, d50, d51, d52, d53, d54, d55])), (h1, .inl (cI, 5, .inl (fun _ => 0))), (h2, .inl (cI, 5, .inl (fun _ => 0)))] := hD
  refine lv_aload_n hx hb dX12_open_15 rfl (lv_at hl 0 rfl) ?_
  refine lv_iconst (v := 0) hx hb dX12_open_16 (by decide) ?_
  refine va_put (D := (dC, dI)) (ci := 12) (v := .int 0) (ty := .int) (C := RX12) (T := TX12) (N := 56) hx hb hts hinX12 tyX12 tyX12_ok nmX12 hown hK hP hD hS 0 rfl rfl 5 (by decide) (hts (.fieldLink RX12 137 "DreamGuardModel" "deep" "I") (by decide +kernel)) (fun _ h9 => h9) rfl (by decide +kernel) rfl rfl (Nat.le_of_ble_eq_true rfl) dX12_open_17 (fun H locs hP hD hS => ?_)
  have hP : va_P (dC, dI) vwCl [(h0, .inr (12, [d0, d1, d2, .int 0, .int (-1), .int 0, d6, d7, .ref h1, .ref h2, d10, d11, d12, d13, .int 4, d15, d16, d17, d18, d19, d20, d21, d22, d23, d24, d25, d26, d27, d28, d29, d30, d31, d32, d33, d34, d35, d36, d37, d38, d39, d40, d41, d42, d43, d44, d45, d46, d47, d48, d49, d50, d51, d52, d53, d54, d55])), (h1, .inl (cI, 5, .inl (fun _ => 0))), (h2, .inl (cI, 5, .inl (fun _ => 0)))] H := hP
  have hD : va_D A [(h0, .inr (12, [d0, d1, d2, .int 0, .int (-1), .int 0, d6, d7, .ref h1, .ref h2, d10, d11, d12, d13, .int 4, d15, d16, d17, d18, d19, d20, d21, d22, d23, d24, d25, d26, d27, d28, d29, d30, d31, d32, d33, d34, d35, d36, d37, d38, d39, d40, d41, d42, d43, d44, d45, d46, d47, d48, d49, d50, d51, d52, d53, d54, d55])), (h1, .inl (cI, 5, .inl (fun _ => 0))), (h2, .inl (cI, 5, .inl (fun _ => 0)))] := hD
  refine lv_aload_n hx hb dX12_open_20 rfl (lv_at hl 0 rfl) ?_
  refine va_get (D := (dC, dI)) (ci := 12) (v := .ref h1) (C := RX12) (T := TX12) (N := 56) hx hb hts hinX12 hown hK hP 0 rfl rfl 8 (by decide) (hts (.fieldLink RX12 19 "DreamGuardModel" "codes" "[I") (by decide +kernel)) (fun _ h9 => h9) rfl dX12_open_21 ?_
  refine lv_iload_n hx hb dX12_open_24 rfl (lv_at hl 1 rfl) ?_
  refine lv_iconst (v := 0) hx hb dX12_open_25 (by decide) ?_
  refine va_iast (i := 4) hx hb hK hP hD hS 1 0 rfl rfl (show ¬ ((4 : Int32) < 0 ∨ 5 ≤ (4 : Int32).toNatClampNeg) by decide) dX12_open_26 (fun H locs hP hD hS => ?_)
  generalize hff1 : upd (fun _ => 0) (4 : Int32).toNatClampNeg 0 = f1 at hP hD
  have hP : va_P (dC, dI) vwCl [(h0, .inr (12, [d0, d1, d2, .int 0, .int (-1), .int 0, d6, d7, .ref h1, .ref h2, d10, d11, d12, d13, .int 4, d15, d16, d17, d18, d19, d20, d21, d22, d23, d24, d25, d26, d27, d28, d29, d30, d31, d32, d33, d34, d35, d36, d37, d38, d39, d40, d41, d42, d43, d44, d45, d46, d47, d48, d49, d50, d51, d52, d53, d54, d55])), (h1, .inl (cI, 5, .inl f1)), (h2, .inl (cI, 5, .inl (fun _ => 0)))] H := hP
  have hD : va_D A [(h0, .inr (12, [d0, d1, d2, .int 0, .int (-1), .int 0, d6, d7, .ref h1, .ref h2, d10, d11, d12, d13, .int 4, d15, d16, d17, d18, d19, d20, d21, d22, d23, d24, d25, d26, d27, d28, d29, d30, d31, d32, d33, d34, d35, d36, d37, d38, d39, d40, d41, d42, d43, d44, d45, d46, d47, d48, d49, d50, d51, d52, d53, d54, d55])), (h1, .inl (cI, 5, .inl f1)), (h2, .inl (cI, 5, .inl (fun _ => 0)))] := hD
  refine lv_aload_n hx hb dX12_open_27 rfl (lv_at hl 0 rfl) ?_
  refine va_get (D := (dC, dI)) (ci := 12) (v := .ref h2) (C := RX12) (T := TX12) (N := 56) hx hb hts hinX12 hown hK hP 0 rfl rfl 9 (by decide) (hts (.fieldLink RX12 22 "DreamGuardModel" "clauses" "[I") (by decide +kernel)) (fun _ h9 => h9) rfl dX12_open_28 ?_
  refine lv_iload_n hx hb dX12_open_31 rfl (lv_at hl 1 rfl) ?_
  refine lv_iconst (v := 0) hx hb dX12_open_32 (by decide) ?_
  refine va_iast (i := 4) hx hb hK hP hD hS 2 0 rfl rfl (show ¬ ((4 : Int32) < 0 ∨ 5 ≤ (4 : Int32).toNatClampNeg) by decide) dX12_open_33 (fun H locs hP hD hS => ?_)
  generalize hff2 : upd (fun _ => 0) (4 : Int32).toNatClampNeg 0 = f2 at hP hD
  have hP : va_P (dC, dI) vwCl [(h0, .inr (12, [d0, d1, d2, .int 0, .int (-1), .int 0, d6, d7, .ref h1, .ref h2, d10, d11, d12, d13, .int 4, d15, d16, d17, d18, d19, d20, d21, d22, d23, d24, d25, d26, d27, d28, d29, d30, d31, d32, d33, d34, d35, d36, d37, d38, d39, d40, d41, d42, d43, d44, d45, d46, d47, d48, d49, d50, d51, d52, d53, d54, d55])), (h1, .inl (cI, 5, .inl f1)), (h2, .inl (cI, 5, .inl f2))] H := hP
  have hD : va_D A [(h0, .inr (12, [d0, d1, d2, .int 0, .int (-1), .int 0, d6, d7, .ref h1, .ref h2, d10, d11, d12, d13, .int 4, d15, d16, d17, d18, d19, d20, d21, d22, d23, d24, d25, d26, d27, d28, d29, d30, d31, d32, d33, d34, d35, d36, d37, d38, d39, d40, d41, d42, d43, d44, d45, d46, d47, d48, d49, d50, d51, d52, d53, d54, d55])), (h1, .inl (cI, 5, .inl f1)), (h2, .inl (cI, 5, .inl f2))] := hD
  have hP9 := hP.sub (ws' := [(h0, .inr (12, [d0, d1, d2, .int 0, .int (-1), .int 0, d6, d7, .ref h1, .ref h2, d10, d11, d12, d13, .int 4, d15, d16, d17, d18, d19, d20, d21, d22, d23, d24, d25, d26, d27, d28, d29, d30, d31, d32, d33, d34, d35, d36, d37, d38, d39, d40, d41, d42, d43, d44, d45, d46, d47, d48, d49, d50, d51, d52, d53, d54, d55])), (h2, .inl (cI, 5, .inl f2))]) [0, 2] rfl
  have hD9 := hD.sub (ws' := [(h0, .inr (12, [d0, d1, d2, .int 0, .int (-1), .int 0, d6, d7, .ref h1, .ref h2, d10, d11, d12, d13, .int 4, d15, d16, d17, d18, d19, d20, d21, d22, d23, d24, d25, d26, d27, d28, d29, d30, d31, d32, d33, d34, d35, d36, d37, d38, d39, d40, d41, d42, d43, d44, d45, d46, d47, d48, d49, d50, d51, d52, d53, d54, d55])), (h2, .inl (cI, 5, .inl f2))]) [0, 2] (by decide) rfl
  exact W.vret hx hb hr (fun t ht hW => ⟨⟨(), rfl, trivial, ⟨f2, by rw [ht]; exact hP9, hD9⟩⟩, hS.F ht⟩) hS.2.2 dX12_open_34

set_option maxHeartbeats 4000000 in
set_option maxRecDepth 100000 in
theorem c_X12_clause4 (l : Launch) (dC : Nat → ClassId) (dI : Nat → Nat → Nat) (cI cZ : ClassId) (sz : Nat) (h0 : Nat) (h2 : Nat) (f2 : Nat → Int32) (d0 : Value) (d1 : Value) (d5 : Value) (d6 : Value) (d7 : Value) (d8 : Value) (d10 : Value) (d11 : Value) (d12 : Value) (d13 : Value) (d15 : Value) (d16 : Value) (d17 : Value) (d18 : Value) (d19 : Value) (d20 : Value) (d21 : Value) (d22 : Value) (d23 : Value) (d24 : Value) (d25 : Value) (d26 : Value) (d27 : Value) (d28 : Value) (d29 : Value) (d30 : Value) (d31 : Value) (d32 : Value) (d33 : Value) (d34 : Value) (d35 : Value) (d36 : Value) (d37 : Value) (d38 : Value) (d39 : Value) (d40 : Value) (d41 : Value) (d42 : Value) (d43 : Value) (d44 : Value) (d45 : Value) (d46 : Value) (d47 : Value) (d48 : Value) (d49 : Value) (d50 : Value) (d51 : Value) (d52 : Value) (d53 : Value) (d54 : Value) (d55 : Value) : Met l yX12_clause wsX12_clause ({ frames := 2, cells := 0, slots := 0, locals := 40 }) (va_Pc [.ref h0] (zPre dC dI cI cZ sz [(h0, .inr (12, [d0, d1, .int 0, .int 0, .int (-1), d5, d6, d7, d8, .ref h2, d10, d11, d12, d13, .int 4, d15, d16, d17, d18, d19, d20, d21, d22, d23, d24, d25, d26, d27, d28, d29, d30, d31, d32, d33, d34, d35, d36, d37, d38, d39, d40, d41, d42, d43, d44, d45, d46, d47, d48, d49, d50, d51, d52, d53, d54, d55])), (h2, .inl (cI, 5, .inl f2))])) (va_Qv (fun (_ : Unit) => True) (fun (_ : Unit) t => (va_P (dC, dI) vwCl [(h0, .inr (12, [d0, d1, .int 0, .int 2, .int 0, d5, d6, d7, d8, .ref h2, d10, d11, d12, d13, .int 4, d15, d16, d17, d18, d19, d20, d21, d22, d23, d24, d25, d26, d27, d28, d29, d30, d31, d32, d33, d34, d35, d36, d37, d38, d39, d40, d41, d42, d43, d44, d45, d46, d47, d48, d49, d50, d51, d52, d53, d54, d55]))] t.heap ∧ va_D (va_A [(h0, .inr (12, [d0, d1, .int 0, .int 0, .int (-1), d5, d6, d7, d8, .ref h2, d10, d11, d12, d13, .int 4, d15, d16, d17, d18, d19, d20, d21, d22, d23, d24, d25, d26, d27, d28, d29, d30, d31, d32, d33, d34, d35, d36, d37, d38, d39, d40, d41, d42, d43, d44, d45, d46, d47, d48, d49, d50, d51, d52, d53, d54, d55])), (h2, .inl (cI, 5, .inl f2))] sz) [(h0, .inr (12, [d0, d1, .int 0, .int 2, .int 0, d5, d6, d7, d8, .ref h2, d10, d11, d12, d13, .int 4, d15, d16, d17, d18, d19, d20, d21, d22, d23, d24, d25, d26, d27, d28, d29, d30, d31, d32, d33, d34, d35, d36, d37, d38, d39, d40, d41, d42, d43, d44, d45, d46, d47, d48, d49, d50, d51, d52, d53, d54, d55]))])) (va_A [(h0, .inr (12, [d0, d1, .int 0, .int 0, .int (-1), d5, d6, d7, d8, .ref h2, d10, d11, d12, d13, .int 4, d15, d16, d17, d18, d19, d20, d21, d22, d23, d24, d25, d26, d27, d28, d29, d30, d31, d32, d33, d34, d35, d36, d37, d38, d39, d40, d41, d42, d43, d44, d45, d46, d47, d48, d49, d50, d51, d52, d53, d54, d55])), (h2, .inl (cI, 5, .inl f2))] sz)) 0 0 (va_A [(h0, .inr (12, [d0, d1, .int 0, .int 0, .int (-1), d5, d6, d7, d8, .ref h2, d10, d11, d12, d13, .int 4, d15, d16, d17, d18, d19, d20, d21, d22, d23, d24, d25, d26, d27, d28, d29, d30, d31, d32, d33, d34, d35, d36, d37, d38, d39, d40, d41, d42, d43, d44, d45, d46, d47, d48, d49, d50, d51, d52, d53, d54, d55])), (h2, .inl (cI, 5, .inl f2))] sz) := by
  refine Met.ofW (cc := cX12_clause) (maxL := 3) (ret := none) (by decide) rfl ?_
  intro p e s m args below meth c s₁ B hml hv
  obtain ⟨rfl, hsz, hP, hK, hD0, hG⟩ := hv
  have hx := B.exec
  have hb := B.bytes
  have hr := B.returns
  have hts := atoms_spec (ws := wsX12_clause) B.pre
  have hown : s.vm.findClass RX12 = some m.cls := findClass_of_methodNamed B.named
  have hlocks := B.notSynchronized
  have hinX12 : ∀ w ∈ wsX120, w ∈ wsX12_clause := by decide +kernel
  subst hsz
  have hD := hD0.self (sz := s.heap.size)
  generalize hAe : va_A [(h0, .inr (12, [d0, d1, .int 0, .int 0, .int (-1), d5, d6, d7, d8, .ref h2, d10, d11, d12, d13, .int 4, d15, d16, d17, d18, d19, d20, d21, d22, d23, d24, d25, d26, d27, d28, d29, d30, d31, d32, d33, d34, d35, d36, d37, d38, d39, d40, d41, d42, d43, d44, d45, d46, d47, d48, d49, d50, d51, d52, d53, d54, d55])), (h2, .inl (cI, 5, .inl f2))] s.heap.size = A at hD ⊢
  have hA : ∀ q : Nat, s.heap.size ≤ q → A q := fun q h => by rw [← hAe]; exact Or.inr h
  have hS : va_S A s.heap s.heap [] := va_S.rf
  have hP : va_P (dC, dI) vwCl [(h0, .inr (12, [d0, d1, .int 0, .int 0, .int (-1), d5, d6, d7, d8, .ref h2, d10, d11, d12, d13, .int 4, d15, d16, d17, d18, d19, d20, d21, d22, d23, d24, d25, d26, d27, d28, d29, d30, d31, d32, d33, d34, d35, d36, d37, d38, d39, d40, d41, d42, d43, d44, d45, d46, d47, d48, d49, d50, d51, d52, d53, d54, d55])), (h2, .inl (cI, 5, .inl f2))] s.heap := hP
  have hl := lv_entry ([.ref h0]) (n := 3) (Nat.le_of_ble_eq_true rfl)
  rw [lg_entry_eq]
  generalize (lg_sl ([.ref h0]) ++ List.replicate (3 - (lg_sl ([.ref h0])).length) Slot.unset).toArray = ls at hl ⊢
  have hl : lv_has ls 3 [(0, .ref h0)] := hl
  refine lv_sipush (v := 140) hx hb dX12_clause_0 (by decide) ?_
  refine lv_aload_n hx hb dX12_clause_3 rfl (lv_at hl 0 rfl) ?_
  refine va_get (D := (dC, dI)) (ci := 12) (v := .int 4) (C := RX12) (T := TX12) (N := 56) hx hb hts hinX12 hown hK hP 0 rfl rfl 14 (by decide) (hts (.fieldLink RX12 134 "DreamGuardModel" "text" "I") (by decide +kernel)) (fun _ h9 => h9) rfl dX12_clause_4 ?_
  refine lv_imul hx hb dX12_clause_7 ?_
  refine lv_topi (fun k1 ek1 => ?_)
  obtain rfl : k1 = 560 := ek1.trans (by decide)
  refine lv_aload_n hx hb dX12_clause_8 rfl (lv_at hl 0 rfl) ?_
  refine va_get (D := (dC, dI)) (ci := 12) (v := .ref h2) (C := RX12) (T := TX12) (N := 56) hx hb hts hinX12 hown hK hP 0 rfl rfl 9 (by decide) (hts (.fieldLink RX12 22 "DreamGuardModel" "clauses" "[I") (by decide +kernel)) (fun _ h9 => h9) rfl dX12_clause_9 ?_
  refine lv_aload_n hx hb dX12_clause_12 rfl (lv_at hl 0 rfl) ?_
  refine va_get (D := (dC, dI)) (ci := 12) (v := .int 4) (C := RX12) (T := TX12) (N := 56) hx hb hts hinX12 hown hK hP 0 rfl rfl 14 (by decide) (hts (.fieldLink RX12 134 "DreamGuardModel" "text" "I") (by decide +kernel)) (fun _ h9 => h9) rfl dX12_clause_13 ?_
  refine va_iald (i := 4) hx hb hK hP 1 0 rfl rfl (show ¬ ((4 : Int32) < 0 ∨ 5 ≤ (4 : Int32).toNatClampNeg) by decide) dX12_clause_16 ?_
  refine lv_iadd hx hb dX12_clause_17 ?_
  refine lv_istore_n (lv' := [(1, .int (560 + (f2 (4 : Int32).toNatClampNeg))), (0, .ref h0)]) hx hb dX12_clause_18 rfl hl (by decide) rfl (fun ls hl => ?_)
  refine lv_aload_n hx hb dX12_clause_19 rfl (lv_at hl 1 rfl) ?_
  refine va_get (D := (dC, dI)) (ci := 12) (v := .int (-1)) (C := RX12) (T := TX12) (N := 56) hx hb hts hinX12 hown hK hP 0 rfl rfl 4 (by decide) (hts (.fieldLink RX12 131 "DreamGuardModel" "wrong" "I") (by decide +kernel)) (fun _ h9 => h9) rfl dX12_clause_20 ?_
  refine lv_iconst (v := (-1)) hx hb dX12_clause_23 (by decide) ?_
  refine lv_icmp_ne (tgt := 40) hx hb dX12_clause_24 (by decide) (fun c9 => absurd (by decide) c9) (fun _ => ?_)
  refine lv_aload_n hx hb dX12_clause_27 rfl (lv_at hl 1 rfl) ?_
  have hPc := hP.sub (ws' := [(h0, .inr (12, [d0, d1, .int 0, .int 0, .int (-1), d5, d6, d7, d8, .ref h2, d10, d11, d12, d13, .int 4, d15, d16, d17, d18, d19, d20, d21, d22, d23, d24, d25, d26, d27, d28, d29, d30, d31, d32, d33, d34, d35, d36, d37, d38, d39, d40, d41, d42, d43, d44, d45, d46, d47, d48, d49, d50, d51, d52, d53, d54, d55]))]) [0] rfl
  have hDc := hD.sub (ws' := [(h0, .inr (12, [d0, d1, .int 0, .int 0, .int (-1), d5, d6, d7, d8, .ref h2, d10, d11, d12, d13, .int 4, d15, d16, d17, d18, d19, d20, d21, d22, d23, d24, d25, d26, d27, d28, d29, d30, d31, d32, d33, d34, d35, d36, d37, d38, d39, d40, d41, d42, d43, d44, d45, d46, d47, d48, d49, d50, d51, d52, d53, d54, d55]))]) [0] (by decide) rfl
  refine va_calli (va_runV (As := []) (rest := []) ⟨hx, hb, hml, hown, hts⟩ (c_X12_look l dC dI cI cZ s.heap.size h0 d0 d1 (.int (-1)) d5 d6 d7 d8 (.ref h2) d10 d11 d12 d13 (.int 4) d15 d16 d17 d18 d19 d20 d21 d22 d23 d24 d25 d26 d27 d28 d29 d30 d31 d32 d33 d34 d35 d36 d37 d38 d39 d40 d41 d42 d43 d44 d45 d46 d47 d48 d49 d50 d51 d52 d53 d54 d55) (cwV 0 hts gX12_clause_X12_look rfl rfl rfl (by decide +kernel) ⟨Nat.le_of_ble_eq_true rfl, Nat.le_of_ble_eq_true rfl⟩) (zPreV hPc hK hDc hG (ci := 12) (q0 := 0) rfl rfl) rfl rfl hl.1 rfl (lv_room (Nat.le_of_ble_eq_true rfl)) dX12_clause_28 ⟨Nat.le_of_ble_eq_true rfl, Nat.le_of_ble_eq_true rfl⟩) hS (fun _ _ h => h.elim) (fun _ h => h.elim) (fun r2 u9 t9 H1 locs ht9 hvm hwr2 hB9 hz1 hk1 hS => ?_)
  replace hP := zKept hP hk1
  try clear hB9 hz1 hk1 hvm ht9 u9 hPc hDc
  generalize H1 = H at hP hS ⊢
  obtain rfl : r2 = (-1) := hwr2.trans rfl
  refine lv_bipush (v := 121) hx hb dX12_clause_31 (by decide) ?_
  refine lv_icmp_eq (tgt := 40) hx hb dX12_clause_33 (by decide) (fun c9 => absurd c9 (by decide)) (fun _ => ?_)
  refine lv_aload_n hx hb dX12_clause_36 rfl (lv_at hl 1 rfl) ?_
  have hPc := hP.sub (ws' := [(h0, .inr (12, [d0, d1, .int 0, .int 0, .int (-1), d5, d6, d7, d8, .ref h2, d10, d11, d12, d13, .int 4, d15, d16, d17, d18, d19, d20, d21, d22, d23, d24, d25, d26, d27, d28, d29, d30, d31, d32, d33, d34, d35, d36, d37, d38, d39, d40, d41, d42, d43, d44, d45, d46, d47, d48, d49, d50, d51, d52, d53, d54, d55]))]) [0] rfl
  have hDc := hD.sub (ws' := [(h0, .inr (12, [d0, d1, .int 0, .int 0, .int (-1), d5, d6, d7, d8, .ref h2, d10, d11, d12, d13, .int 4, d15, d16, d17, d18, d19, d20, d21, d22, d23, d24, d25, d26, d27, d28, d29, d30, d31, d32, d33, d34, d35, d36, d37, d38, d39, d40, d41, d42, d43, d44, d45, d46, d47, d48, d49, d50, d51, d52, d53, d54, d55]))]) [0] (by decide) rfl
  have hFc := va_free (wc := [(h0, .inr (12, [d0, d1, .int 0, .int 0, .int (-1), d5, d6, d7, d8, .ref h2, d10, d11, d12, d13, .int 4, d15, d16, d17, d18, d19, d20, d21, d22, d23, d24, d25, d26, d27, d28, d29, d30, d31, d32, d33, d34, d35, d36, d37, d38, d39, d40, d41, d42, d43, d44, d45, d46, d47, d48, d49, d50, d51, d52, d53, d54, d55]))]) hD hS hA [0] rfl
  refine va_callv (va_runV (As := []) (rest := []) ⟨hx, hb, hml, hown, hts⟩ (c_X12_bad l dC dI cI cZ H.size h0 d0 d1 (.int 0) d5 d6 d7 d8 (.ref h2) d10 d11 d12 d13 (.int 4) d15 d16 d17 d18 d19 d20 d21 d22 d23 d24 d25 d26 d27 d28 d29 d30 d31 d32 d33 d34 d35 d36 d37 d38 d39 d40 d41 d42 d43 d44 d45 d46 d47 d48 d49 d50 d51 d52 d53 d54 d55) (cwV 0 hts gX12_clause_X12_bad rfl rfl rfl (by decide +kernel) ⟨Nat.le_of_ble_eq_true rfl, Nat.le_of_ble_eq_true rfl⟩) (zPreV hPc hK hDc hG (ci := 12) (q0 := 0) rfl rfl) rfl rfl hl.1 rfl (lv_room (Nat.le_of_ble_eq_true rfl)) dX12_clause_37 ⟨Nat.le_of_ble_eq_true rfl, Nat.le_of_ble_eq_true rfl⟩) hS (fun q _ h => hFc q h) hFc (fun u9 t9 H1 locs ht9 hvm hwr3 hB9 hz1 hk1 hS => ?_)
  obtain ⟨hP1, hD1⟩ := hB9
  rw [ht9] at hP1
  obtain ⟨hP, hD⟩ := va_join (wr := [(h2, .inl (cI, 5, .inl f2))]) (w1 := [(h0, .inr (12, [d0, d1, .int 0, .int 0, .int 0, d5, d6, d7, d8, .ref h2, d10, d11, d12, d13, .int 4, d15, d16, d17, d18, d19, d20, d21, d22, d23, d24, d25, d26, d27, d28, d29, d30, d31, d32, d33, d34, d35, d36, d37, d38, d39, d40, d41, d42, d43, d44, d45, d46, d47, d48, d49, d50, d51, d52, d53, d54, d55]))]) hP hD [0] [1] rfl rfl (by decide) (by decide) hk1 hFc hP1 hD1
  try clear hz1 hk1 hvm ht9 u9 hPc hDc hFc hP1 hD1
  generalize H1 = H at hP hS ⊢
  have hP : va_P (dC, dI) vwCl [(h2, .inl (cI, 5, .inl f2)), (h0, .inr (12, [d0, d1, .int 0, .int 0, .int 0, d5, d6, d7, d8, .ref h2, d10, d11, d12, d13, .int 4, d15, d16, d17, d18, d19, d20, d21, d22, d23, d24, d25, d26, d27, d28, d29, d30, d31, d32, d33, d34, d35, d36, d37, d38, d39, d40, d41, d42, d43, d44, d45, d46, d47, d48, d49, d50, d51, d52, d53, d54, d55]))] H := hP
  have hD : va_D A [(h2, .inl (cI, 5, .inl f2)), (h0, .inr (12, [d0, d1, .int 0, .int 0, .int 0, d5, d6, d7, d8, .ref h2, d10, d11, d12, d13, .int 4, d15, d16, d17, d18, d19, d20, d21, d22, d23, d24, d25, d26, d27, d28, d29, d30, d31, d32, d33, d34, d35, d36, d37, d38, d39, d40, d41, d42, d43, d44, d45, d46, d47, d48, d49, d50, d51, d52, d53, d54, d55]))] := hD
  refine lv_aload_n hx hb dX12_clause_40 rfl (lv_at hl 1 rfl) ?_
  refine lv_dup hx hb dX12_clause_41 rfl ?_
  refine va_get (D := (dC, dI)) (ci := 12) (v := .int 0) (C := RX12) (T := TX12) (N := 56) hx hb hts hinX12 hown hK hP 1 rfl rfl 3 (by decide) (hts (.fieldLink RX12 124 "DreamGuardModel" "at" "I") (by decide +kernel)) (fun _ h9 => h9) rfl dX12_clause_42 ?_
  refine lv_iconst (v := 1) hx hb dX12_clause_45 (by decide) ?_
  refine lv_iadd hx hb dX12_clause_46 ?_
  refine lv_topi (fun k4 ek4 => ?_)
  obtain rfl : k4 = 1 := ek4.trans (by decide)
  refine va_put (D := (dC, dI)) (ci := 12) (v := .int 1) (ty := .int) (C := RX12) (T := TX12) (N := 56) hx hb hts hinX12 tyX12 tyX12_ok nmX12 hown hK hP hD hS 1 rfl rfl 3 (by decide) (hts (.fieldLink RX12 124 "DreamGuardModel" "at" "I") (by decide +kernel)) (fun _ h9 => h9) rfl (by decide +kernel) rfl rfl (Nat.le_of_ble_eq_true rfl) dX12_clause_47 (fun H locs hP hD hS => ?_)
  have hP : va_P (dC, dI) vwCl [(h2, .inl (cI, 5, .inl f2)), (h0, .inr (12, [d0, d1, .int 0, .int 1, .int 0, d5, d6, d7, d8, .ref h2, d10, d11, d12, d13, .int 4, d15, d16, d17, d18, d19, d20, d21, d22, d23, d24, d25, d26, d27, d28, d29, d30, d31, d32, d33, d34, d35, d36, d37, d38, d39, d40, d41, d42, d43, d44, d45, d46, d47, d48, d49, d50, d51, d52, d53, d54, d55]))] H := hP
  have hD : va_D A [(h2, .inl (cI, 5, .inl f2)), (h0, .inr (12, [d0, d1, .int 0, .int 1, .int 0, d5, d6, d7, d8, .ref h2, d10, d11, d12, d13, .int 4, d15, d16, d17, d18, d19, d20, d21, d22, d23, d24, d25, d26, d27, d28, d29, d30, d31, d32, d33, d34, d35, d36, d37, d38, d39, d40, d41, d42, d43, d44, d45, d46, d47, d48, d49, d50, d51, d52, d53, d54, d55]))] := hD
  refine lv_aload_n hx hb dX12_clause_50 rfl (lv_at hl 1 rfl) ?_
  refine va_get (D := (dC, dI)) (ci := 12) (v := .int 0) (C := RX12) (T := TX12) (N := 56) hx hb hts hinX12 hown hK hP 1 rfl rfl 4 (by decide) (hts (.fieldLink RX12 131 "DreamGuardModel" "wrong" "I") (by decide +kernel)) (fun _ h9 => h9) rfl dX12_clause_51 ?_
  refine lv_iconst (v := (-1)) hx hb dX12_clause_54 (by decide) ?_
  refine lv_icmp_ne (tgt := 71) hx hb dX12_clause_55 (by decide) (fun _ => ?_) (fun c9 => absurd c9 (by decide))
  refine lv_aload_n hx hb dX12_clause_71 rfl (lv_at hl 1 rfl) ?_
  refine lv_dup hx hb dX12_clause_72 rfl ?_
  refine va_get (D := (dC, dI)) (ci := 12) (v := .int 1) (C := RX12) (T := TX12) (N := 56) hx hb hts hinX12 hown hK hP 1 rfl rfl 3 (by decide) (hts (.fieldLink RX12 124 "DreamGuardModel" "at" "I") (by decide +kernel)) (fun _ h9 => h9) rfl dX12_clause_73 ?_
  refine lv_iconst (v := 1) hx hb dX12_clause_76 (by decide) ?_
  refine lv_iadd hx hb dX12_clause_77 ?_
  refine lv_topi (fun k5 ek5 => ?_)
  obtain rfl : k5 = 2 := ek5.trans (by decide)
  refine va_put (D := (dC, dI)) (ci := 12) (v := .int 2) (ty := .int) (C := RX12) (T := TX12) (N := 56) hx hb hts hinX12 tyX12 tyX12_ok nmX12 hown hK hP hD hS 1 rfl rfl 3 (by decide) (hts (.fieldLink RX12 124 "DreamGuardModel" "at" "I") (by decide +kernel)) (fun _ h9 => h9) rfl (by decide +kernel) rfl rfl (Nat.le_of_ble_eq_true rfl) dX12_clause_78 (fun H locs hP hD hS => ?_)
  have hP : va_P (dC, dI) vwCl [(h2, .inl (cI, 5, .inl f2)), (h0, .inr (12, [d0, d1, .int 0, .int 2, .int 0, d5, d6, d7, d8, .ref h2, d10, d11, d12, d13, .int 4, d15, d16, d17, d18, d19, d20, d21, d22, d23, d24, d25, d26, d27, d28, d29, d30, d31, d32, d33, d34, d35, d36, d37, d38, d39, d40, d41, d42, d43, d44, d45, d46, d47, d48, d49, d50, d51, d52, d53, d54, d55]))] H := hP
  have hD : va_D A [(h2, .inl (cI, 5, .inl f2)), (h0, .inr (12, [d0, d1, .int 0, .int 2, .int 0, d5, d6, d7, d8, .ref h2, d10, d11, d12, d13, .int 4, d15, d16, d17, d18, d19, d20, d21, d22, d23, d24, d25, d26, d27, d28, d29, d30, d31, d32, d33, d34, d35, d36, d37, d38, d39, d40, d41, d42, d43, d44, d45, d46, d47, d48, d49, d50, d51, d52, d53, d54, d55]))] := hD
  refine lv_aload_n hx hb dX12_clause_81 rfl (lv_at hl 1 rfl) ?_
  refine va_get (D := (dC, dI)) (ci := 12) (v := .int 0) (C := RX12) (T := TX12) (N := 56) hx hb hts hinX12 hown hK hP 1 rfl rfl 4 (by decide) (hts (.fieldLink RX12 131 "DreamGuardModel" "wrong" "I") (by decide +kernel)) (fun _ h9 => h9) rfl dX12_clause_82 ?_
  refine lv_iconst (v := (-1)) hx hb dX12_clause_85 (by decide) ?_
  refine lv_icmp_eq (tgt := 90) hx hb dX12_clause_86 (by decide) (fun c9 => absurd c9 (by decide)) (fun _ => ?_)
  have hP9 := hP.sub (ws' := [(h0, .inr (12, [d0, d1, .int 0, .int 2, .int 0, d5, d6, d7, d8, .ref h2, d10, d11, d12, d13, .int 4, d15, d16, d17, d18, d19, d20, d21, d22, d23, d24, d25, d26, d27, d28, d29, d30, d31, d32, d33, d34, d35, d36, d37, d38, d39, d40, d41, d42, d43, d44, d45, d46, d47, d48, d49, d50, d51, d52, d53, d54, d55]))]) [1] rfl
  have hD9 := hD.sub (ws' := [(h0, .inr (12, [d0, d1, .int 0, .int 2, .int 0, d5, d6, d7, d8, .ref h2, d10, d11, d12, d13, .int 4, d15, d16, d17, d18, d19, d20, d21, d22, d23, d24, d25, d26, d27, d28, d29, d30, d31, d32, d33, d34, d35, d36, d37, d38, d39, d40, d41, d42, d43, d44, d45, d46, d47, d48, d49, d50, d51, d52, d53, d54, d55]))]) [1] (by decide) rfl
  exact W.vret hx hb hr (fun t ht hW => ⟨⟨(), rfl, trivial, ⟨by rw [ht]; exact hP9, hD9⟩⟩, hS.F ht⟩) hS.2.2 dX12_clause_89

def s_X12_readLaw4 : Int32 := 0
set_option maxHeartbeats 4000000 in
set_option maxRecDepth 100000 in
theorem c_X12_readLaw4 (l : Launch) (dC : Nat → ClassId) (dI : Nat → Nat → Nat) (cI cZ : ClassId) (sz : Nat) (h0 : Nat) (h1 : Nat) (h2 : Nat) (d0 : Value) (d1 : Value) (d3 : Value) (d4 : Value) (d5 : Value) (d6 : Value) (d7 : Value) (d10 : Value) (d11 : Value) (d12 : Value) (d13 : Value) (d14 : Value) (d15 : Value) (d16 : Value) (d17 : Value) (d18 : Value) (d19 : Value) (d20 : Value) (d21 : Value) (d22 : Value) (d23 : Value) (d24 : Value) (d25 : Value) (d26 : Value) (d27 : Value) (d28 : Value) (d29 : Value) (d30 : Value) (d31 : Value) (d32 : Value) (d33 : Value) (d34 : Value) (d35 : Value) (d36 : Value) (d37 : Value) (d38 : Value) (d39 : Value) (d40 : Value) (d41 : Value) (d42 : Value) (d43 : Value) (d44 : Value) (d45 : Value) (d46 : Value) (d47 : Value) (d48 : Value) (d49 : Value) (d50 : Value) (d51 : Value) (d52 : Value) (d53 : Value) (d54 : Value) (d55 : Value) : Met l yX12_readLaw wsX12_readLaw ({ frames := 3, cells := 0, slots := 0, locals := 62 }) (va_Pc [.ref h0, .int 4] (zPre dC dI cI cZ sz [(h0, .inr (12, [d0, d1, .int 0, d3, d4, d5, d6, d7, .ref h1, .ref h2, d10, d11, d12, d13, d14, d15, d16, d17, d18, d19, d20, d21, d22, d23, d24, d25, d26, d27, d28, d29, d30, d31, d32, d33, d34, d35, d36, d37, d38, d39, d40, d41, d42, d43, d44, d45, d46, d47, d48, d49, d50, d51, d52, d53, d54, d55])), (h1, .inl (cI, 5, .inl (fun _ => 0))), (h2, .inl (cI, 5, .inl (fun _ => 0)))])) (va_Qi (fun (r : Int32) (_ : Unit) => r = s_X12_readLaw4) (fun (_ : Unit) _ => True) (va_A [(h0, .inr (12, [d0, d1, .int 0, d3, d4, d5, d6, d7, .ref h1, .ref h2, d10, d11, d12, d13, d14, d15, d16, d17, d18, d19, d20, d21, d22, d23, d24, d25, d26, d27, d28, d29, d30, d31, d32, d33, d34, d35, d36, d37, d38, d39, d40, d41, d42, d43, d44, d45, d46, d47, d48, d49, d50, d51, d52, d53, d54, d55])), (h1, .inl (cI, 5, .inl (fun _ => 0))), (h2, .inl (cI, 5, .inl (fun _ => 0)))] sz)) 0 0 (va_A [(h0, .inr (12, [d0, d1, .int 0, d3, d4, d5, d6, d7, .ref h1, .ref h2, d10, d11, d12, d13, d14, d15, d16, d17, d18, d19, d20, d21, d22, d23, d24, d25, d26, d27, d28, d29, d30, d31, d32, d33, d34, d35, d36, d37, d38, d39, d40, d41, d42, d43, d44, d45, d46, d47, d48, d49, d50, d51, d52, d53, d54, d55])), (h1, .inl (cI, 5, .inl (fun _ => 0))), (h2, .inl (cI, 5, .inl (fun _ => 0)))] sz) := by
  refine Met.ofW (cc := cX12_readLaw) (maxL := 2) (ret := (some .int)) (by decide) rfl ?_
  intro p e s m args below meth c s₁ B hml hv
  obtain ⟨rfl, hsz, hP, hK, hD0, hG⟩ := hv
  have hx := B.exec
  have hb := B.bytes
  have hr := B.returns
  have hts := atoms_spec (ws := wsX12_readLaw) B.pre
  have hown : s.vm.findClass RX12 = some m.cls := findClass_of_methodNamed B.named
  have hlocks := B.notSynchronized
  have hinX12 : ∀ w ∈ wsX120, w ∈ wsX12_readLaw := by decide +kernel
  subst hsz
  have hD := hD0.self (sz := s.heap.size)
  generalize hAe : va_A [(h0, .inr (12, [d0, d1, .int 0, d3, d4, d5, d6, d7, .ref h1, .ref h2, d10, d11, d12, d13, d14, d15, d16, d17, d18, d19, d20, d21, d22, d23, d24, d25, d26, d27, d28, d29, d30, d31, d32, d33, d34, d35, d36, d37, d38, d39, d40, d41, d42, d43, d44, d45, d46, d47, d48, d49, d50, d51, d52, d53, d54, d55])), (h1, .inl (cI, 5, .inl (fun _ => 0))), (h2, .inl (cI, 5, .inl (fun _ => 0)))] s.heap.size = A at hD ⊢
  have hA : ∀ q : Nat, s.heap.size ≤ q → A q := fun q h => by rw [← hAe]; exact Or.inr h
  have hS : va_S A s.heap s.heap [] := va_S.rf
  have hP : va_P (dC, dI) vwCl [(h0, .inr (12, [d0, d1, .int 0, d3, d4, d5, d6, d7, .ref h1, .ref h2, d10, d11, d12, d13, d14, d15, d16, d17, d18, d19, d20, d21, d22, d23, d24, d25, d26, d27, d28, d29, d30, d31, d32, d33, d34, d35, d36, d37, d38, d39, d40, d41, d42, d43, d44, d45, d46, d47, d48, d49, d50, d51, d52, d53, d54, d55])), (h1, .inl (cI, 5, .inl (fun _ => 0))), (h2, .inl (cI, 5, .inl (fun _ => 0)))] s.heap := hP
  have hl := lv_entry ([.ref h0, .int 4]) (n := 2) (Nat.le_of_ble_eq_true rfl)
  rw [lg_entry_eq]
  generalize (lg_sl ([.ref h0, .int 4]) ++ List.replicate (2 - (lg_sl ([.ref h0, .int 4])).length) Slot.unset).toArray = ls at hl ⊢
  have hl : lv_has ls 2 [(0, .ref h0), (1, .int 4)] := hl
  refine lv_aload_n hx hb dX12_readLaw_0 rfl (lv_at hl 0 rfl) ?_
  refine lv_iload_n hx hb dX12_readLaw_1 rfl (lv_at hl 1 rfl) ?_
  have hPc := hP.sub (ws' := [(h0, .inr (12, [d0, d1, .int 0, d3, d4, d5, d6, d7, .ref h1, .ref h2, d10, d11, d12, d13, d14, d15, d16, d17, d18, d19, d20, d21, d22, d23, d24, d25, d26, d27, d28, d29, d30, d31, d32, d33, d34, d35, d36, d37, d38, d39, d40, d41, d42, d43, d44, d45, d46, d47, d48, d49, d50, d51, d52, d53, d54, d55])), (h1, .inl (cI, 5, .inl (fun _ => 0))), (h2, .inl (cI, 5, .inl (fun _ => 0)))]) [0, 1, 2] rfl
  have hDc := hD.sub (ws' := [(h0, .inr (12, [d0, d1, .int 0, d3, d4, d5, d6, d7, .ref h1, .ref h2, d10, d11, d12, d13, d14, d15, d16, d17, d18, d19, d20, d21, d22, d23, d24, d25, d26, d27, d28, d29, d30, d31, d32, d33, d34, d35, d36, d37, d38, d39, d40, d41, d42, d43, d44, d45, d46, d47, d48, d49, d50, d51, d52, d53, d54, d55])), (h1, .inl (cI, 5, .inl (fun _ => 0))), (h2, .inl (cI, 5, .inl (fun _ => 0)))]) [0, 1, 2] (by decide) rfl
  have hFc := va_free (wc := [(h0, .inr (12, [d0, d1, .int 0, d3, d4, d5, d6, d7, .ref h1, .ref h2, d10, d11, d12, d13, d14, d15, d16, d17, d18, d19, d20, d21, d22, d23, d24, d25, d26, d27, d28, d29, d30, d31, d32, d33, d34, d35, d36, d37, d38, d39, d40, d41, d42, d43, d44, d45, d46, d47, d48, d49, d50, d51, d52, d53, d54, d55])), (h1, .inl (cI, 5, .inl (fun _ => 0))), (h2, .inl (cI, 5, .inl (fun _ => 0)))]) hD hS hA [0, 1, 2] rfl
  refine va_callv (va_runV (As := [.int 4]) (rest := []) ⟨hx, hb, hml, hown, hts⟩ (c_X12_open4 l dC dI cI cZ s.heap.size h0 h1 h2 d0 d1 (.int 0) d3 d4 d5 d6 d7 d10 d11 d12 d13 d14 d15 d16 d17 d18 d19 d20 d21 d22 d23 d24 d25 d26 d27 d28 d29 d30 d31 d32 d33 d34 d35 d36 d37 d38 d39 d40 d41 d42 d43 d44 d45 d46 d47 d48 d49 d50 d51 d52 d53 d54 d55) (cwV 1 hts gX12_readLaw_X12_open rfl rfl rfl (by decide +kernel) ⟨Nat.le_of_ble_eq_true rfl, Nat.le_of_ble_eq_true rfl⟩) (zPreV hPc hK hDc hG (ci := 12) (q0 := 0) rfl rfl) rfl rfl hl.1 rfl (lv_room (Nat.le_of_ble_eq_true rfl)) dX12_readLaw_2 ⟨Nat.le_of_ble_eq_true rfl, Nat.le_of_ble_eq_true rfl⟩) hS (fun q _ h => hFc q h) hFc (fun u9 t9 H1 locs ht9 hvm hwr1 hB9 hz1 hk1 hS => ?_)
  obtain ⟨v2, hP1, hD1⟩ := hB9
  rw [ht9] at hP1
  obtain ⟨hP, hD⟩ := va_join (wr := []) (w1 := [(h0, .inr (12, [d0, d1, .int 0, .int 0, .int (-1), .int 0, d6, d7, .ref h1, .ref h2, d10, d11, d12, d13, .int 4, d15, d16, d17, d18, d19, d20, d21, d22, d23, d24, d25, d26, d27, d28, d29, d30, d31, d32, d33, d34, d35, d36, d37, d38, d39, d40, d41, d42, d43, d44, d45, d46, d47, d48, d49, d50, d51, d52, d53, d54, d55])), (h2, .inl (cI, 5, .inl v2))]) hP hD [0, 1, 2] [] rfl rfl (by decide) (by decide) hk1 hFc hP1 hD1
  try clear hz1 hk1 hvm ht9 u9 hPc hDc hFc hP1 hD1
  generalize H1 = H at hP hS ⊢
  have hP : va_P (dC, dI) vwCl [(h0, .inr (12, [d0, d1, .int 0, .int 0, .int (-1), .int 0, d6, d7, .ref h1, .ref h2, d10, d11, d12, d13, .int 4, d15, d16, d17, d18, d19, d20, d21, d22, d23, d24, d25, d26, d27, d28, d29, d30, d31, d32, d33, d34, d35, d36, d37, d38, d39, d40, d41, d42, d43, d44, d45, d46, d47, d48, d49, d50, d51, d52, d53, d54, d55])), (h2, .inl (cI, 5, .inl v2))] H := hP
  have hD : va_D A [(h0, .inr (12, [d0, d1, .int 0, .int 0, .int (-1), .int 0, d6, d7, .ref h1, .ref h2, d10, d11, d12, d13, .int 4, d15, d16, d17, d18, d19, d20, d21, d22, d23, d24, d25, d26, d27, d28, d29, d30, d31, d32, d33, d34, d35, d36, d37, d38, d39, d40, d41, d42, d43, d44, d45, d46, d47, d48, d49, d50, d51, d52, d53, d54, d55])), (h2, .inl (cI, 5, .inl v2))] := hD
  refine lv_aload_n hx hb dX12_readLaw_5 rfl (lv_at hl 0 rfl) ?_
  have hPc := hP.sub (ws' := [(h0, .inr (12, [d0, d1, .int 0, .int 0, .int (-1), .int 0, d6, d7, .ref h1, .ref h2, d10, d11, d12, d13, .int 4, d15, d16, d17, d18, d19, d20, d21, d22, d23, d24, d25, d26, d27, d28, d29, d30, d31, d32, d33, d34, d35, d36, d37, d38, d39, d40, d41, d42, d43, d44, d45, d46, d47, d48, d49, d50, d51, d52, d53, d54, d55])), (h2, .inl (cI, 5, .inl v2))]) [0, 1] rfl
  have hDc := hD.sub (ws' := [(h0, .inr (12, [d0, d1, .int 0, .int 0, .int (-1), .int 0, d6, d7, .ref h1, .ref h2, d10, d11, d12, d13, .int 4, d15, d16, d17, d18, d19, d20, d21, d22, d23, d24, d25, d26, d27, d28, d29, d30, d31, d32, d33, d34, d35, d36, d37, d38, d39, d40, d41, d42, d43, d44, d45, d46, d47, d48, d49, d50, d51, d52, d53, d54, d55])), (h2, .inl (cI, 5, .inl v2))]) [0, 1] (by decide) rfl
  have hFc := va_free (wc := [(h0, .inr (12, [d0, d1, .int 0, .int 0, .int (-1), .int 0, d6, d7, .ref h1, .ref h2, d10, d11, d12, d13, .int 4, d15, d16, d17, d18, d19, d20, d21, d22, d23, d24, d25, d26, d27, d28, d29, d30, d31, d32, d33, d34, d35, d36, d37, d38, d39, d40, d41, d42, d43, d44, d45, d46, d47, d48, d49, d50, d51, d52, d53, d54, d55])), (h2, .inl (cI, 5, .inl v2))]) hD hS hA [0, 1] rfl
  refine va_callv (va_runV (As := []) (rest := []) ⟨hx, hb, hml, hown, hts⟩ (c_X12_clause4 l dC dI cI cZ H.size h0 h2 v2 d0 d1 (.int 0) d6 d7 (.ref h1) d10 d11 d12 d13 d15 d16 d17 d18 d19 d20 d21 d22 d23 d24 d25 d26 d27 d28 d29 d30 d31 d32 d33 d34 d35 d36 d37 d38 d39 d40 d41 d42 d43 d44 d45 d46 d47 d48 d49 d50 d51 d52 d53 d54 d55) (cwV 0 hts gX12_readLaw_X12_clause rfl rfl rfl (by decide +kernel) ⟨Nat.le_of_ble_eq_true rfl, Nat.le_of_ble_eq_true rfl⟩) (zPreV hPc hK hDc hG (ci := 12) (q0 := 0) rfl rfl) rfl rfl hl.1 rfl (lv_room (Nat.le_of_ble_eq_true rfl)) dX12_readLaw_6 ⟨Nat.le_of_ble_eq_true rfl, Nat.le_of_ble_eq_true rfl⟩) hS (fun q _ h => hFc q h) hFc (fun u9 t9 H1 locs ht9 hvm hwr3 hB9 hz1 hk1 hS => ?_)
  obtain ⟨hP1, hD1⟩ := hB9
  rw [ht9] at hP1
  obtain ⟨hP, hD⟩ := va_join (wr := []) (w1 := [(h0, .inr (12, [d0, d1, .int 0, .int 2, .int 0, .int 0, d6, d7, .ref h1, .ref h2, d10, d11, d12, d13, .int 4, d15, d16, d17, d18, d19, d20, d21, d22, d23, d24, d25, d26, d27, d28, d29, d30, d31, d32, d33, d34, d35, d36, d37, d38, d39, d40, d41, d42, d43, d44, d45, d46, d47, d48, d49, d50, d51, d52, d53, d54, d55]))]) hP hD [0, 1] [] rfl rfl (by decide) (by decide) hk1 hFc hP1 hD1
  try clear hz1 hk1 hvm ht9 u9 hPc hDc hFc hP1 hD1
  generalize H1 = H at hP hS ⊢
  have hP : va_P (dC, dI) vwCl [(h0, .inr (12, [d0, d1, .int 0, .int 2, .int 0, .int 0, d6, d7, .ref h1, .ref h2, d10, d11, d12, d13, .int 4, d15, d16, d17, d18, d19, d20, d21, d22, d23, d24, d25, d26, d27, d28, d29, d30, d31, d32, d33, d34, d35, d36, d37, d38, d39, d40, d41, d42, d43, d44, d45, d46, d47, d48, d49, d50, d51, d52, d53, d54, d55]))] H := hP
  have hD : va_D A [(h0, .inr (12, [d0, d1, .int 0, .int 2, .int 0, .int 0, d6, d7, .ref h1, .ref h2, d10, d11, d12, d13, .int 4, d15, d16, d17, d18, d19, d20, d21, d22, d23, d24, d25, d26, d27, d28, d29, d30, d31, d32, d33, d34, d35, d36, d37, d38, d39, d40, d41, d42, d43, d44, d45, d46, d47, d48, d49, d50, d51, d52, d53, d54, d55]))] := hD
  refine lv_aload_n hx hb dX12_readLaw_9 rfl (lv_at hl 0 rfl) ?_
  refine va_get (D := (dC, dI)) (ci := 12) (v := .int 0) (C := RX12) (T := TX12) (N := 56) hx hb hts hinX12 hown hK hP 0 rfl rfl 4 (by decide) (hts (.fieldLink RX12 131 "DreamGuardModel" "wrong" "I") (by decide +kernel)) (fun _ h9 => h9) rfl dX12_readLaw_10 ?_
  refine lv_iconst (v := (-1)) hx hb dX12_readLaw_13 (by decide) ?_
  refine lv_icmp_ne (tgt := 43) hx hb dX12_readLaw_14 (by decide) (fun _ => ?_) (fun c9 => absurd c9 (by decide))
  refine lv_aload_n hx hb dX12_readLaw_43 rfl (lv_at hl 0 rfl) ?_
  have hPc := hP.sub (ws' := [(h0, .inr (12, [d0, d1, .int 0, .int 2, .int 0, .int 0, d6, d7, .ref h1, .ref h2, d10, d11, d12, d13, .int 4, d15, d16, d17, d18, d19, d20, d21, d22, d23, d24, d25, d26, d27, d28, d29, d30, d31, d32, d33, d34, d35, d36, d37, d38, d39, d40, d41, d42, d43, d44, d45, d46, d47, d48, d49, d50, d51, d52, d53, d54, d55]))]) [0] rfl
  have hDc := hD.sub (ws' := [(h0, .inr (12, [d0, d1, .int 0, .int 2, .int 0, .int 0, d6, d7, .ref h1, .ref h2, d10, d11, d12, d13, .int 4, d15, d16, d17, d18, d19, d20, d21, d22, d23, d24, d25, d26, d27, d28, d29, d30, d31, d32, d33, d34, d35, d36, d37, d38, d39, d40, d41, d42, d43, d44, d45, d46, d47, d48, d49, d50, d51, d52, d53, d54, d55]))]) [0] (by decide) rfl
  refine va_calli (va_runV (As := []) (rest := []) ⟨hx, hb, hml, hown, hts⟩ (c_X12_atEnd l dC dI cI cZ H.size h0 d0 d1 (.int 0) (.int 2) (.int 0) d6 d7 (.ref h1) (.ref h2) d10 d11 d12 d13 (.int 4) d15 d16 d17 d18 d19 d20 d21 d22 d23 d24 d25 d26 d27 d28 d29 d30 d31 d32 d33 d34 d35 d36 d37 d38 d39 d40 d41 d42 d43 d44 d45 d46 d47 d48 d49 d50 d51 d52 d53 d54 d55) (cwV 0 hts gX12_readLaw_X12_atEnd rfl rfl rfl (by decide +kernel) ⟨Nat.le_of_ble_eq_true rfl, Nat.le_of_ble_eq_true rfl⟩) (zPreV hPc hK hDc hG (ci := 12) (q0 := 0) rfl rfl) rfl rfl hl.1 rfl (lv_room (Nat.le_of_ble_eq_true rfl)) dX12_readLaw_44 ⟨Nat.le_of_ble_eq_true rfl, Nat.le_of_ble_eq_true rfl⟩) hS (fun _ _ h => h.elim) (fun _ h => h.elim) (fun r4 u9 t9 H1 locs ht9 hvm hwr4 hB9 hz1 hk1 hS => ?_)
  replace hP := zKept hP hk1
  try clear hB9 hz1 hk1 hvm ht9 u9 hPc hDc
  generalize H1 = H at hP hS ⊢
  obtain rfl : r4 = 0 := hwr4.trans rfl
  exact W.iret (v := 0) hx hb hr (fun t ht hW => ⟨⟨0, (), rfl, (by unfold s_X12_readLaw4; first | rfl | simp), trivial⟩, hS.F ht⟩) hS.2.2 dX12_readLaw_47

def s_X12_fault (p0 : Int32) : Int32 := (if p0 = 0 then 0 else (if p0 = 1 then 0 else (-2)))
set_option maxHeartbeats 4000000 in
set_option maxRecDepth 100000 in
theorem c_X12_fault (l : Launch) (dC : Nat → ClassId) (dI : Nat → Nat → Nat) (cI cZ : ClassId) (sz : Nat) (h0 : Nat) (h1 : Nat) (h2 : Nat) (h3 : Nat) (d0 : Value) (d1 : Value) (d3 : Value) (d4 : Value) (d5 : Value) (d6 : Value) (d7 : Value) (d10 : Value) (d11 : Value) (d12 : Value) (d13 : Value) (d14 : Value) (d15 : Value) (d16 : Value) (d18 : Value) (d19 : Value) (d20 : Value) (d21 : Value) (d22 : Value) (d23 : Value) (d24 : Value) (d25 : Value) (d26 : Value) (d27 : Value) (d28 : Value) (d29 : Value) (d30 : Value) (d31 : Value) (d32 : Value) (d33 : Value) (d34 : Value) (d35 : Value) (d36 : Value) (d37 : Value) (d38 : Value) (d39 : Value) (d40 : Value) (d41 : Value) (d42 : Value) (d43 : Value) (d44 : Value) (d45 : Value) (d46 : Value) (d47 : Value) (d48 : Value) (d49 : Value) (d50 : Value) (d51 : Value) (d52 : Value) (d53 : Value) (d54 : Value) (d55 : Value) (p0 : Int32) : Met l yX12_fault wsX12_fault ({ frames := 4, cells := 0, slots := 0, locals := 83 }) (va_Pc [.ref h0, .int p0] (zPre dC dI cI cZ sz [(h0, .inr (12, [d0, d1, .int 0, d3, d4, d5, d6, d7, .ref h2, .ref h3, d10, d11, d12, d13, d14, d15, d16, .ref h1, d18, d19, d20, d21, d22, d23, d24, d25, d26, d27, d28, d29, d30, d31, d32, d33, d34, d35, d36, d37, d38, d39, d40, d41, d42, d43, d44, d45, d46, d47, d48, d49, d50, d51, d52, d53, d54, d55])), (h1, .inl (cI, 3, .inl (fun _ => 0))), (h2, .inl (cI, 5, .inl (fun _ => 0))), (h3, .inl (cI, 5, .inl (fun _ => 0)))])) (va_Qi (fun (r : Int32) (_ : Unit) => r = s_X12_fault p0) (fun (_ : Unit) _ => True) (va_A [(h0, .inr (12, [d0, d1, .int 0, d3, d4, d5, d6, d7, .ref h2, .ref h3, d10, d11, d12, d13, d14, d15, d16, .ref h1, d18, d19, d20, d21, d22, d23, d24, d25, d26, d27, d28, d29, d30, d31, d32, d33, d34, d35, d36, d37, d38, d39, d40, d41, d42, d43, d44, d45, d46, d47, d48, d49, d50, d51, d52, d53, d54, d55])), (h1, .inl (cI, 3, .inl (fun _ => 0))), (h2, .inl (cI, 5, .inl (fun _ => 0))), (h3, .inl (cI, 5, .inl (fun _ => 0)))] sz)) 0 0 (va_A [(h0, .inr (12, [d0, d1, .int 0, d3, d4, d5, d6, d7, .ref h2, .ref h3, d10, d11, d12, d13, d14, d15, d16, .ref h1, d18, d19, d20, d21, d22, d23, d24, d25, d26, d27, d28, d29, d30, d31, d32, d33, d34, d35, d36, d37, d38, d39, d40, d41, d42, d43, d44, d45, d46, d47, d48, d49, d50, d51, d52, d53, d54, d55])), (h1, .inl (cI, 3, .inl (fun _ => 0))), (h2, .inl (cI, 5, .inl (fun _ => 0))), (h3, .inl (cI, 5, .inl (fun _ => 0)))] sz) := by
  refine Met.ofW (cc := cX12_fault) (maxL := 2) (ret := (some .int)) (by decide) rfl ?_
  intro p e s m args below meth c s₁ B hml hv
  obtain ⟨rfl, hsz, hP, hK, hD0, hG⟩ := hv
  have hx := B.exec
  have hb := B.bytes
  have hr := B.returns
  have hts := atoms_spec (ws := wsX12_fault) B.pre
  have hown : s.vm.findClass RX12 = some m.cls := findClass_of_methodNamed B.named
  have hlocks := B.notSynchronized
  subst hsz
  have hD := hD0.self (sz := s.heap.size)
  generalize hAe : va_A [(h0, .inr (12, [d0, d1, .int 0, d3, d4, d5, d6, d7, .ref h2, .ref h3, d10, d11, d12, d13, d14, d15, d16, .ref h1, d18, d19, d20, d21, d22, d23, d24, d25, d26, d27, d28, d29, d30, d31, d32, d33, d34, d35, d36, d37, d38, d39, d40, d41, d42, d43, d44, d45, d46, d47, d48, d49, d50, d51, d52, d53, d54, d55])), (h1, .inl (cI, 3, .inl (fun _ => 0))), (h2, .inl (cI, 5, .inl (fun _ => 0))), (h3, .inl (cI, 5, .inl (fun _ => 0)))] s.heap.size = A at hD ⊢
  have hA : ∀ q : Nat, s.heap.size ≤ q → A q := fun q h => by rw [← hAe]; exact Or.inr h
  have hS : va_S A s.heap s.heap [] := va_S.rf
  have hP : va_P (dC, dI) vwCl [(h0, .inr (12, [d0, d1, .int 0, d3, d4, d5, d6, d7, .ref h2, .ref h3, d10, d11, d12, d13, d14, d15, d16, .ref h1, d18, d19, d20, d21, d22, d23, d24, d25, d26, d27, d28, d29, d30, d31, d32, d33, d34, d35, d36, d37, d38, d39, d40, d41, d42, d43, d44, d45, d46, d47, d48, d49, d50, d51, d52, d53, d54, d55])), (h1, .inl (cI, 3, .inl (fun _ => 0))), (h2, .inl (cI, 5, .inl (fun _ => 0))), (h3, .inl (cI, 5, .inl (fun _ => 0)))] s.heap := hP
  have hl := lv_entry ([.ref h0, .int p0]) (n := 2) (Nat.le_of_ble_eq_true rfl)
  rw [lg_entry_eq]
  generalize (lg_sl ([.ref h0, .int p0]) ++ List.replicate (2 - (lg_sl ([.ref h0, .int p0])).length) Slot.unset).toArray = ls at hl ⊢
  have hl : lv_has ls 2 [(0, .ref h0), (1, .int p0)] := hl
  refine lv_iload_n hx hb dX12_fault_0 rfl (lv_at hl 1 rfl) ?_
  refine lv_if_ne (tgt := 11) hx hb dX12_fault_1 (by decide) (fun c1 => ?_) (fun c1 => ?_)
  · skip
    refine lv_iload_n hx hb dX12_fault_11 rfl (lv_at hl 1 rfl) ?_
    refine lv_iconst (v := 1) hx hb dX12_fault_12 (by decide) ?_
    refine lv_icmp_ne (tgt := 24) hx hb dX12_fault_13 (by decide) (fun c2 => ?_) (fun c2 => ?_)
    · skip
      refine lv_bipush (v := (-2)) hx hb dX12_fault_24 (by decide) ?_
      exact W.iret (v := (-2)) hx hb hr (fun t ht hW => ⟨⟨(-2), (), rfl, (by unfold s_X12_fault; rw [if_neg c1, if_neg c2]), trivial⟩, hS.F ht⟩) hS.2.2 dX12_fault_26
    · skip
      refine lv_aload_n hx hb dX12_fault_16 rfl (lv_at hl 0 rfl) ?_
      refine lv_iconst (v := 4) hx hb dX12_fault_17 (by decide) ?_
      have hPc := hP.sub (ws' := [(h0, .inr (12, [d0, d1, .int 0, d3, d4, d5, d6, d7, .ref h2, .ref h3, d10, d11, d12, d13, d14, d15, d16, .ref h1, d18, d19, d20, d21, d22, d23, d24, d25, d26, d27, d28, d29, d30, d31, d32, d33, d34, d35, d36, d37, d38, d39, d40, d41, d42, d43, d44, d45, d46, d47, d48, d49, d50, d51, d52, d53, d54, d55])), (h2, .inl (cI, 5, .inl (fun _ => 0))), (h3, .inl (cI, 5, .inl (fun _ => 0)))]) [0, 2, 3] rfl
      have hDc := hD.sub (ws' := [(h0, .inr (12, [d0, d1, .int 0, d3, d4, d5, d6, d7, .ref h2, .ref h3, d10, d11, d12, d13, d14, d15, d16, .ref h1, d18, d19, d20, d21, d22, d23, d24, d25, d26, d27, d28, d29, d30, d31, d32, d33, d34, d35, d36, d37, d38, d39, d40, d41, d42, d43, d44, d45, d46, d47, d48, d49, d50, d51, d52, d53, d54, d55])), (h2, .inl (cI, 5, .inl (fun _ => 0))), (h3, .inl (cI, 5, .inl (fun _ => 0)))]) [0, 2, 3] (by decide) rfl
      have hFc := va_free (wc := [(h0, .inr (12, [d0, d1, .int 0, d3, d4, d5, d6, d7, .ref h2, .ref h3, d10, d11, d12, d13, d14, d15, d16, .ref h1, d18, d19, d20, d21, d22, d23, d24, d25, d26, d27, d28, d29, d30, d31, d32, d33, d34, d35, d36, d37, d38, d39, d40, d41, d42, d43, d44, d45, d46, d47, d48, d49, d50, d51, d52, d53, d54, d55])), (h2, .inl (cI, 5, .inl (fun _ => 0))), (h3, .inl (cI, 5, .inl (fun _ => 0)))]) hD hS hA [0, 2, 3] rfl
      refine va_calli (va_runV (As := [.int 4]) (rest := []) ⟨hx, hb, hml, hown, hts⟩ (c_X12_readLaw4 l dC dI cI cZ s.heap.size h0 h2 h3 d0 d1 d3 d4 d5 d6 d7 d10 d11 d12 d13 d14 d15 d16 (.ref h1) d18 d19 d20 d21 d22 d23 d24 d25 d26 d27 d28 d29 d30 d31 d32 d33 d34 d35 d36 d37 d38 d39 d40 d41 d42 d43 d44 d45 d46 d47 d48 d49 d50 d51 d52 d53 d54 d55) (cwV 1 hts gX12_fault_X12_readLaw rfl rfl rfl (by decide +kernel) ⟨Nat.le_of_ble_eq_true rfl, Nat.le_of_ble_eq_true rfl⟩) (zPreV hPc hK hDc hG (ci := 12) (q0 := 0) rfl rfl) rfl rfl hl.1 rfl (lv_room (Nat.le_of_ble_eq_true rfl)) dX12_fault_18 ⟨Nat.le_of_ble_eq_true rfl, Nat.le_of_ble_eq_true rfl⟩) hS (fun q _ h => hFc q h) hFc (fun r3 u9 t9 H1 locs ht9 hvm hwr3 hB9 hz1 hk1 hS => ?_)
      have hP1 : va_P (dC, dI) vwCl [] H1 := zNoP
      have hD1 : va_D (va_A [(h0, .inr (12, [d0, d1, .int 0, d3, d4, d5, d6, d7, .ref h2, .ref h3, d10, d11, d12, d13, d14, d15, d16, .ref h1, d18, d19, d20, d21, d22, d23, d24, d25, d26, d27, d28, d29, d30, d31, d32, d33, d34, d35, d36, d37, d38, d39, d40, d41, d42, d43, d44, d45, d46, d47, d48, d49, d50, d51, d52, d53, d54, d55])), (h2, .inl (cI, 5, .inl (fun _ => 0))), (h3, .inl (cI, 5, .inl (fun _ => 0)))] s.heap.size) [] := zNoD
      obtain ⟨hP, hD⟩ := va_join (wr := [(h1, .inl (cI, 3, .inl (fun _ => 0)))]) (w1 := []) hP hD [0, 2, 3] [1] rfl rfl (by decide) (by decide) hk1 hFc hP1 hD1
      try clear hz1 hk1 hvm ht9 u9 hPc hDc hFc hP1 hD1 hB9
      generalize H1 = H at hP hS ⊢
      have hP : va_P (dC, dI) vwCl [(h1, .inl (cI, 3, .inl (fun _ => 0)))] H := hP
      have hD : va_D A [(h1, .inl (cI, 3, .inl (fun _ => 0)))] := hD
      obtain rfl : r3 = 0 := hwr3.trans rfl
      refine lv_goto (tgt := 26) hx hb dX12_fault_21 (by decide) ?_
      exact W.iret (v := 0) hx hb hr (fun t ht hW => ⟨⟨0, (), rfl, (by unfold s_X12_fault; rw [if_neg c1, if_pos c2]), trivial⟩, hS.F ht⟩) hS.2.2 dX12_fault_26
  · skip
    refine lv_aload_n hx hb dX12_fault_4 rfl (lv_at hl 0 rfl) ?_
    have hPc := hP.sub (ws' := [(h0, .inr (12, [d0, d1, .int 0, d3, d4, d5, d6, d7, .ref h2, .ref h3, d10, d11, d12, d13, d14, d15, d16, .ref h1, d18, d19, d20, d21, d22, d23, d24, d25, d26, d27, d28, d29, d30, d31, d32, d33, d34, d35, d36, d37, d38, d39, d40, d41, d42, d43, d44, d45, d46, d47, d48, d49, d50, d51, d52, d53, d54, d55])), (h1, .inl (cI, 3, .inl (fun _ => 0)))]) [0, 1] rfl
    have hDc := hD.sub (ws' := [(h0, .inr (12, [d0, d1, .int 0, d3, d4, d5, d6, d7, .ref h2, .ref h3, d10, d11, d12, d13, d14, d15, d16, .ref h1, d18, d19, d20, d21, d22, d23, d24, d25, d26, d27, d28, d29, d30, d31, d32, d33, d34, d35, d36, d37, d38, d39, d40, d41, d42, d43, d44, d45, d46, d47, d48, d49, d50, d51, d52, d53, d54, d55])), (h1, .inl (cI, 3, .inl (fun _ => 0)))]) [0, 1] (by decide) rfl
    have hFc := va_free (wc := [(h0, .inr (12, [d0, d1, .int 0, d3, d4, d5, d6, d7, .ref h2, .ref h3, d10, d11, d12, d13, d14, d15, d16, .ref h1, d18, d19, d20, d21, d22, d23, d24, d25, d26, d27, d28, d29, d30, d31, d32, d33, d34, d35, d36, d37, d38, d39, d40, d41, d42, d43, d44, d45, d46, d47, d48, d49, d50, d51, d52, d53, d54, d55])), (h1, .inl (cI, 3, .inl (fun _ => 0)))]) hD hS hA [0, 1] rfl
    refine va_calli (va_runV (As := []) (rest := []) ⟨hx, hb, hml, hown, hts⟩ (c_X12_readFort l dC dI cI cZ s.heap.size h0 h1 d0 d1 d3 d4 d5 d6 d7 (.ref h2) (.ref h3) d10 d11 d12 d13 d14 d15 d16 d18 d19 d20 d21 d22 d23 d24 d25 d26 d27 d28 d29 d30 d31 d32 d33 d34 d35 d36 d37 d38 d39 d40 d41 d42 d43 d44 d45 d46 d47 d48 d49 d50 d51 d52 d53 d54 d55) (cwV 0 hts gX12_fault_X12_readFort rfl rfl rfl (by decide +kernel) ⟨Nat.le_of_ble_eq_true rfl, Nat.le_of_ble_eq_true rfl⟩) (zPreV hPc hK hDc hG (ci := 12) (q0 := 0) rfl rfl) rfl rfl hl.1 rfl (lv_room (Nat.le_of_ble_eq_true rfl)) dX12_fault_5 ⟨Nat.le_of_ble_eq_true rfl, Nat.le_of_ble_eq_true rfl⟩) hS (fun q _ h => hFc q h) hFc (fun r4 u9 t9 H1 locs ht9 hvm hwr4 hB9 hz1 hk1 hS => ?_)
    have hP1 : va_P (dC, dI) vwCl [] H1 := zNoP
    have hD1 : va_D (va_A [(h0, .inr (12, [d0, d1, .int 0, d3, d4, d5, d6, d7, .ref h2, .ref h3, d10, d11, d12, d13, d14, d15, d16, .ref h1, d18, d19, d20, d21, d22, d23, d24, d25, d26, d27, d28, d29, d30, d31, d32, d33, d34, d35, d36, d37, d38, d39, d40, d41, d42, d43, d44, d45, d46, d47, d48, d49, d50, d51, d52, d53, d54, d55])), (h1, .inl (cI, 3, .inl (fun _ => 0)))] s.heap.size) [] := zNoD
    obtain ⟨hP, hD⟩ := va_join (wr := [(h2, .inl (cI, 5, .inl (fun _ => 0))), (h3, .inl (cI, 5, .inl (fun _ => 0)))]) (w1 := []) hP hD [0, 1] [2, 3] rfl rfl (by decide) (by decide) hk1 hFc hP1 hD1
    try clear hz1 hk1 hvm ht9 u9 hPc hDc hFc hP1 hD1 hB9
    generalize H1 = H at hP hS ⊢
    have hP : va_P (dC, dI) vwCl [(h2, .inl (cI, 5, .inl (fun _ => 0))), (h3, .inl (cI, 5, .inl (fun _ => 0)))] H := hP
    have hD : va_D A [(h2, .inl (cI, 5, .inl (fun _ => 0))), (h3, .inl (cI, 5, .inl (fun _ => 0)))] := hD
    obtain rfl : r4 = 0 := hwr4.trans rfl
    refine lv_goto (tgt := 26) hx hb dX12_fault_8 (by decide) ?_
    exact W.iret (v := 0) hx hb hr (fun t ht hW => ⟨⟨0, (), rfl, (by unfold s_X12_fault; rw [if_pos c1]), trivial⟩, hS.F ht⟩) hS.2.2 dX12_fault_26

def s_X12_text (p0 : Int32) : Int32 := (if p0 = 0 then (-1) else (if p0 = 1 then (-1) else (-1)))
set_option maxHeartbeats 4000000 in
set_option maxRecDepth 100000 in
theorem c_X12_text (l : Launch) (dC : Nat → ClassId) (dI : Nat → Nat → Nat) (cI cZ : ClassId) (sz : Nat) (h0 : Nat) (h1 : Nat) (h2 : Nat) (h3 : Nat) (d0 : Value) (d1 : Value) (d3 : Value) (d4 : Value) (d5 : Value) (d6 : Value) (d7 : Value) (d10 : Value) (d11 : Value) (d12 : Value) (d14 : Value) (d15 : Value) (d16 : Value) (d18 : Value) (d19 : Value) (d20 : Value) (d21 : Value) (d22 : Value) (d23 : Value) (d24 : Value) (d25 : Value) (d26 : Value) (d27 : Value) (d28 : Value) (d29 : Value) (d30 : Value) (d31 : Value) (d32 : Value) (d33 : Value) (d34 : Value) (d35 : Value) (d36 : Value) (d37 : Value) (d38 : Value) (d39 : Value) (d40 : Value) (d41 : Value) (d42 : Value) (d43 : Value) (d44 : Value) (d45 : Value) (d46 : Value) (d47 : Value) (d48 : Value) (d49 : Value) (d50 : Value) (d51 : Value) (d52 : Value) (d53 : Value) (d54 : Value) (d55 : Value) (p0 : Int32) : Met l yX12_text wsX12_text ({ frames := 4, cells := 0, slots := 0, locals := 83 }) (va_Pc [.ref h0, .int p0] (zPre dC dI cI cZ sz [(h0, .inr (12, [d0, d1, .int 0, d3, d4, d5, d6, d7, .ref h2, .ref h3, d10, d11, d12, .int 0, d14, d15, d16, .ref h1, d18, d19, d20, d21, d22, d23, d24, d25, d26, d27, d28, d29, d30, d31, d32, d33, d34, d35, d36, d37, d38, d39, d40, d41, d42, d43, d44, d45, d46, d47, d48, d49, d50, d51, d52, d53, d54, d55])), (h1, .inl (cI, 3, .inl (fun _ => 0))), (h2, .inl (cI, 5, .inl (fun _ => 0))), (h3, .inl (cI, 5, .inl (fun _ => 0)))])) (va_Qi (fun (r : Int32) (_ : Unit) => r = s_X12_text p0) (fun (_ : Unit) _ => True) (va_A [(h0, .inr (12, [d0, d1, .int 0, d3, d4, d5, d6, d7, .ref h2, .ref h3, d10, d11, d12, .int 0, d14, d15, d16, .ref h1, d18, d19, d20, d21, d22, d23, d24, d25, d26, d27, d28, d29, d30, d31, d32, d33, d34, d35, d36, d37, d38, d39, d40, d41, d42, d43, d44, d45, d46, d47, d48, d49, d50, d51, d52, d53, d54, d55])), (h1, .inl (cI, 3, .inl (fun _ => 0))), (h2, .inl (cI, 5, .inl (fun _ => 0))), (h3, .inl (cI, 5, .inl (fun _ => 0)))] sz)) 0 0 (va_A [(h0, .inr (12, [d0, d1, .int 0, d3, d4, d5, d6, d7, .ref h2, .ref h3, d10, d11, d12, .int 0, d14, d15, d16, .ref h1, d18, d19, d20, d21, d22, d23, d24, d25, d26, d27, d28, d29, d30, d31, d32, d33, d34, d35, d36, d37, d38, d39, d40, d41, d42, d43, d44, d45, d46, d47, d48, d49, d50, d51, d52, d53, d54, d55])), (h1, .inl (cI, 3, .inl (fun _ => 0))), (h2, .inl (cI, 5, .inl (fun _ => 0))), (h3, .inl (cI, 5, .inl (fun _ => 0)))] sz) := by
  refine Met.ofW (cc := cX12_text) (maxL := 2) (ret := (some .int)) (by decide) rfl ?_
  intro p e s m args below meth c s₁ B hml hv
  obtain ⟨rfl, hsz, hP, hK, hD0, hG⟩ := hv
  have hx := B.exec
  have hb := B.bytes
  have hr := B.returns
  have hts := atoms_spec (ws := wsX12_text) B.pre
  have hown : s.vm.findClass RX12 = some m.cls := findClass_of_methodNamed B.named
  have hlocks := B.notSynchronized
  have hinX12 : ∀ w ∈ wsX120, w ∈ wsX12_text := by decide +kernel
  subst hsz
  have hD := hD0.self (sz := s.heap.size)
  generalize hAe : va_A [(h0, .inr (12, [d0, d1, .int 0, d3, d4, d5, d6, d7, .ref h2, .ref h3, d10, d11, d12, .int 0, d14, d15, d16, .ref h1, d18, d19, d20, d21, d22, d23, d24, d25, d26, d27, d28, d29, d30, d31, d32, d33, d34, d35, d36, d37, d38, d39, d40, d41, d42, d43, d44, d45, d46, d47, d48, d49, d50, d51, d52, d53, d54, d55])), (h1, .inl (cI, 3, .inl (fun _ => 0))), (h2, .inl (cI, 5, .inl (fun _ => 0))), (h3, .inl (cI, 5, .inl (fun _ => 0)))] s.heap.size = A at hD ⊢
  have hA : ∀ q : Nat, s.heap.size ≤ q → A q := fun q h => by rw [← hAe]; exact Or.inr h
  have hS : va_S A s.heap s.heap [] := va_S.rf
  have hP : va_P (dC, dI) vwCl [(h0, .inr (12, [d0, d1, .int 0, d3, d4, d5, d6, d7, .ref h2, .ref h3, d10, d11, d12, .int 0, d14, d15, d16, .ref h1, d18, d19, d20, d21, d22, d23, d24, d25, d26, d27, d28, d29, d30, d31, d32, d33, d34, d35, d36, d37, d38, d39, d40, d41, d42, d43, d44, d45, d46, d47, d48, d49, d50, d51, d52, d53, d54, d55])), (h1, .inl (cI, 3, .inl (fun _ => 0))), (h2, .inl (cI, 5, .inl (fun _ => 0))), (h3, .inl (cI, 5, .inl (fun _ => 0)))] s.heap := hP
  have hl := lv_entry ([.ref h0, .int p0]) (n := 2) (Nat.le_of_ble_eq_true rfl)
  rw [lg_entry_eq]
  generalize (lg_sl ([.ref h0, .int p0]) ++ List.replicate (2 - (lg_sl ([.ref h0, .int p0])).length) Slot.unset).toArray = ls at hl ⊢
  have hl : lv_has ls 2 [(0, .ref h0), (1, .int p0)] := hl
  refine lv_iload_n hx hb dX12_text_0 rfl (lv_at hl 1 rfl) ?_
  refine lv_if_ne (tgt := 22) hx hb dX12_text_1 (by decide) (fun c1 => ?_) (fun c1 => ?_)
  · skip
    refine lv_iload_n hx hb dX12_text_22 rfl (lv_at hl 1 rfl) ?_
    refine lv_iconst (v := 1) hx hb dX12_text_23 (by decide) ?_
    refine lv_icmp_ne (tgt := 69) hx hb dX12_text_24 (by decide) (fun c2 => ?_) (fun c2 => ?_)
    · skip
      refine lv_iconst (v := (-1)) hx hb dX12_text_69 (by decide) ?_
      exact W.iret (v := (-1)) hx hb hr (fun t ht hW => ⟨⟨(-1), (), rfl, (by unfold s_X12_text; rw [if_neg c1, if_neg c2]), trivial⟩, hS.F ht⟩) hS.2.2 dX12_text_70
    · skip
      refine lv_aload_n hx hb dX12_text_27 rfl (lv_at hl 0 rfl) ?_
      refine va_get (D := (dC, dI)) (ci := 12) (v := .int 0) (C := RX12) (T := TX12) (N := 56) hx hb hts hinX12 hown hK hP 0 rfl rfl 13 (by decide) (hts (.fieldLink RX12 295 "DreamGuardModel" "laws" "I") (by decide +kernel)) (fun _ h9 => h9) rfl dX12_text_28 ?_
      refine lv_iconst (v := 4) hx hb dX12_text_31 (by decide) ?_
      refine lv_icmp_ge (tgt := 69) hx hb dX12_text_32 (by decide) (fun c9 => absurd c9 (by decide)) (fun _ => ?_)
      refine lv_aload_n hx hb dX12_text_35 rfl (lv_at hl 0 rfl) ?_
      refine lv_aload_n hx hb dX12_text_36 rfl (lv_at hl 0 rfl) ?_
      refine va_get (D := (dC, dI)) (ci := 12) (v := .int 0) (C := RX12) (T := TX12) (N := 56) hx hb hts hinX12 hown hK hP 0 rfl rfl 13 (by decide) (hts (.fieldLink RX12 295 "DreamGuardModel" "laws" "I") (by decide +kernel)) (fun _ h9 => h9) rfl dX12_text_37 ?_
      have hPc := hP.sub (ws' := [(h0, .inr (12, [d0, d1, .int 0, d3, d4, d5, d6, d7, .ref h2, .ref h3, d10, d11, d12, .int 0, d14, d15, d16, .ref h1, d18, d19, d20, d21, d22, d23, d24, d25, d26, d27, d28, d29, d30, d31, d32, d33, d34, d35, d36, d37, d38, d39, d40, d41, d42, d43, d44, d45, d46, d47, d48, d49, d50, d51, d52, d53, d54, d55])), (h2, .inl (cI, 5, .inl (fun _ => 0))), (h3, .inl (cI, 5, .inl (fun _ => 0)))]) [0, 2, 3] rfl
      have hDc := hD.sub (ws' := [(h0, .inr (12, [d0, d1, .int 0, d3, d4, d5, d6, d7, .ref h2, .ref h3, d10, d11, d12, .int 0, d14, d15, d16, .ref h1, d18, d19, d20, d21, d22, d23, d24, d25, d26, d27, d28, d29, d30, d31, d32, d33, d34, d35, d36, d37, d38, d39, d40, d41, d42, d43, d44, d45, d46, d47, d48, d49, d50, d51, d52, d53, d54, d55])), (h2, .inl (cI, 5, .inl (fun _ => 0))), (h3, .inl (cI, 5, .inl (fun _ => 0)))]) [0, 2, 3] (by decide) rfl
      have hFc := va_free (wc := [(h0, .inr (12, [d0, d1, .int 0, d3, d4, d5, d6, d7, .ref h2, .ref h3, d10, d11, d12, .int 0, d14, d15, d16, .ref h1, d18, d19, d20, d21, d22, d23, d24, d25, d26, d27, d28, d29, d30, d31, d32, d33, d34, d35, d36, d37, d38, d39, d40, d41, d42, d43, d44, d45, d46, d47, d48, d49, d50, d51, d52, d53, d54, d55])), (h2, .inl (cI, 5, .inl (fun _ => 0))), (h3, .inl (cI, 5, .inl (fun _ => 0)))]) hD hS hA [0, 2, 3] rfl
      refine va_calli (va_runV (As := [.int 0]) (rest := []) ⟨hx, hb, hml, hown, hts⟩ (c_X12_readLaw0 l dC dI cI cZ s.heap.size h0 h2 h3 d0 d1 d3 d4 d5 d6 d7 d10 d11 d12 (.int 0) d14 d15 d16 (.ref h1) d18 d19 d20 d21 d22 d23 d24 d25 d26 d27 d28 d29 d30 d31 d32 d33 d34 d35 d36 d37 d38 d39 d40 d41 d42 d43 d44 d45 d46 d47 d48 d49 d50 d51 d52 d53 d54 d55) (cwV 1 hts gX12_text_X12_readLaw rfl rfl rfl (by decide +kernel) ⟨Nat.le_of_ble_eq_true rfl, Nat.le_of_ble_eq_true rfl⟩) (zPreV hPc hK hDc hG (ci := 12) (q0 := 0) rfl rfl) rfl rfl hl.1 rfl (lv_room (Nat.le_of_ble_eq_true rfl)) dX12_text_40 ⟨Nat.le_of_ble_eq_true rfl, Nat.le_of_ble_eq_true rfl⟩) hS (fun q _ h => hFc q h) hFc (fun r3 u9 t9 H1 locs ht9 hvm hwr3 hB9 hz1 hk1 hS => ?_)
      have hP1 : va_P (dC, dI) vwCl [] H1 := zNoP
      have hD1 : va_D (va_A [(h0, .inr (12, [d0, d1, .int 0, d3, d4, d5, d6, d7, .ref h2, .ref h3, d10, d11, d12, .int 0, d14, d15, d16, .ref h1, d18, d19, d20, d21, d22, d23, d24, d25, d26, d27, d28, d29, d30, d31, d32, d33, d34, d35, d36, d37, d38, d39, d40, d41, d42, d43, d44, d45, d46, d47, d48, d49, d50, d51, d52, d53, d54, d55])), (h2, .inl (cI, 5, .inl (fun _ => 0))), (h3, .inl (cI, 5, .inl (fun _ => 0)))] s.heap.size) [] := zNoD
      obtain ⟨hP, hD⟩ := va_join (wr := [(h1, .inl (cI, 3, .inl (fun _ => 0)))]) (w1 := []) hP hD [0, 2, 3] [1] rfl rfl (by decide) (by decide) hk1 hFc hP1 hD1
      try clear hz1 hk1 hvm ht9 u9 hPc hDc hFc hP1 hD1 hB9
      generalize H1 = H at hP hS ⊢
      have hP : va_P (dC, dI) vwCl [(h1, .inl (cI, 3, .inl (fun _ => 0)))] H := hP
      have hD : va_D A [(h1, .inl (cI, 3, .inl (fun _ => 0)))] := hD
      obtain rfl : r3 = 0 := hwr3.trans rfl
      refine lv_iconst (v := (-1)) hx hb dX12_text_43 (by decide) ?_
      refine lv_icmp_ne (tgt := 69) hx hb dX12_text_44 (by decide) (fun _ => ?_) (fun c9 => absurd c9 (by decide))
      refine lv_iconst (v := (-1)) hx hb dX12_text_69 (by decide) ?_
      exact W.iret (v := (-1)) hx hb hr (fun t ht hW => ⟨⟨(-1), (), rfl, (by unfold s_X12_text; rw [if_neg c1, if_pos c2]), trivial⟩, hS.F ht⟩) hS.2.2 dX12_text_70
  · skip
    refine lv_aload_n hx hb dX12_text_4 rfl (lv_at hl 0 rfl) ?_
    have hPc := hP.sub (ws' := [(h0, .inr (12, [d0, d1, .int 0, d3, d4, d5, d6, d7, .ref h2, .ref h3, d10, d11, d12, .int 0, d14, d15, d16, .ref h1, d18, d19, d20, d21, d22, d23, d24, d25, d26, d27, d28, d29, d30, d31, d32, d33, d34, d35, d36, d37, d38, d39, d40, d41, d42, d43, d44, d45, d46, d47, d48, d49, d50, d51, d52, d53, d54, d55])), (h1, .inl (cI, 3, .inl (fun _ => 0)))]) [0, 1] rfl
    have hDc := hD.sub (ws' := [(h0, .inr (12, [d0, d1, .int 0, d3, d4, d5, d6, d7, .ref h2, .ref h3, d10, d11, d12, .int 0, d14, d15, d16, .ref h1, d18, d19, d20, d21, d22, d23, d24, d25, d26, d27, d28, d29, d30, d31, d32, d33, d34, d35, d36, d37, d38, d39, d40, d41, d42, d43, d44, d45, d46, d47, d48, d49, d50, d51, d52, d53, d54, d55])), (h1, .inl (cI, 3, .inl (fun _ => 0)))]) [0, 1] (by decide) rfl
    have hFc := va_free (wc := [(h0, .inr (12, [d0, d1, .int 0, d3, d4, d5, d6, d7, .ref h2, .ref h3, d10, d11, d12, .int 0, d14, d15, d16, .ref h1, d18, d19, d20, d21, d22, d23, d24, d25, d26, d27, d28, d29, d30, d31, d32, d33, d34, d35, d36, d37, d38, d39, d40, d41, d42, d43, d44, d45, d46, d47, d48, d49, d50, d51, d52, d53, d54, d55])), (h1, .inl (cI, 3, .inl (fun _ => 0)))]) hD hS hA [0, 1] rfl
    refine va_calli (va_runV (As := []) (rest := []) ⟨hx, hb, hml, hown, hts⟩ (c_X12_readFort l dC dI cI cZ s.heap.size h0 h1 d0 d1 d3 d4 d5 d6 d7 (.ref h2) (.ref h3) d10 d11 d12 (.int 0) d14 d15 d16 d18 d19 d20 d21 d22 d23 d24 d25 d26 d27 d28 d29 d30 d31 d32 d33 d34 d35 d36 d37 d38 d39 d40 d41 d42 d43 d44 d45 d46 d47 d48 d49 d50 d51 d52 d53 d54 d55) (cwV 0 hts gX12_text_X12_readFort rfl rfl rfl (by decide +kernel) ⟨Nat.le_of_ble_eq_true rfl, Nat.le_of_ble_eq_true rfl⟩) (zPreV hPc hK hDc hG (ci := 12) (q0 := 0) rfl rfl) rfl rfl hl.1 rfl (lv_room (Nat.le_of_ble_eq_true rfl)) dX12_text_5 ⟨Nat.le_of_ble_eq_true rfl, Nat.le_of_ble_eq_true rfl⟩) hS (fun q _ h => hFc q h) hFc (fun r4 u9 t9 H1 locs ht9 hvm hwr4 hB9 hz1 hk1 hS => ?_)
    have hP1 : va_P (dC, dI) vwCl [] H1 := zNoP
    have hD1 : va_D (va_A [(h0, .inr (12, [d0, d1, .int 0, d3, d4, d5, d6, d7, .ref h2, .ref h3, d10, d11, d12, .int 0, d14, d15, d16, .ref h1, d18, d19, d20, d21, d22, d23, d24, d25, d26, d27, d28, d29, d30, d31, d32, d33, d34, d35, d36, d37, d38, d39, d40, d41, d42, d43, d44, d45, d46, d47, d48, d49, d50, d51, d52, d53, d54, d55])), (h1, .inl (cI, 3, .inl (fun _ => 0)))] s.heap.size) [] := zNoD
    obtain ⟨hP, hD⟩ := va_join (wr := [(h2, .inl (cI, 5, .inl (fun _ => 0))), (h3, .inl (cI, 5, .inl (fun _ => 0)))]) (w1 := []) hP hD [0, 1] [2, 3] rfl rfl (by decide) (by decide) hk1 hFc hP1 hD1
    try clear hz1 hk1 hvm ht9 u9 hPc hDc hFc hP1 hD1 hB9
    generalize H1 = H at hP hS ⊢
    have hP : va_P (dC, dI) vwCl [(h2, .inl (cI, 5, .inl (fun _ => 0))), (h3, .inl (cI, 5, .inl (fun _ => 0)))] H := hP
    have hD : va_D A [(h2, .inl (cI, 5, .inl (fun _ => 0))), (h3, .inl (cI, 5, .inl (fun _ => 0)))] := hD
    obtain rfl : r4 = 0 := hwr4.trans rfl
    refine lv_iconst (v := (-1)) hx hb dX12_text_8 (by decide) ?_
    refine lv_icmp_ne (tgt := 22) hx hb dX12_text_9 (by decide) (fun _ => ?_) (fun c9 => absurd c9 (by decide))
    refine lv_iload_n hx hb dX12_text_22 rfl (lv_at hl 1 rfl) ?_
    refine lv_iconst (v := 1) hx hb dX12_text_23 (by decide) ?_
    refine lv_icmp_ne (tgt := 69) hx hb dX12_text_24 (by decide) (fun _ => ?_) (fun c9 => absurd c9 (fun h => absurd (c1.symm.trans h) (by decide)))
    refine lv_iconst (v := (-1)) hx hb dX12_text_69 (by decide) ?_
    exact W.iret (v := (-1)) hx hb hr (fun t ht hW => ⟨⟨(-1), (), rfl, (by unfold s_X12_text; rw [if_pos c1]), trivial⟩, hS.F ht⟩) hS.2.2 dX12_text_70

def s_X12_thrown (th : Int32) : Int32 := th
set_option maxHeartbeats 4000000 in
set_option maxRecDepth 100000 in
theorem c_X12_thrown (l : Launch) (dC : Nat → ClassId) (dI : Nat → Nat → Nat) (cI cZ : ClassId) (sz : Nat) (h0 : Nat) (th : Int32) (d1 : Value) (d2 : Value) (d3 : Value) (d4 : Value) (d5 : Value) (d6 : Value) (d7 : Value) (d8 : Value) (d9 : Value) (d10 : Value) (d11 : Value) (d12 : Value) (d13 : Value) (d14 : Value) (d15 : Value) (d16 : Value) (d17 : Value) (d18 : Value) (d19 : Value) (d20 : Value) (d21 : Value) (d22 : Value) (d23 : Value) (d24 : Value) (d25 : Value) (d26 : Value) (d27 : Value) (d28 : Value) (d29 : Value) (d30 : Value) (d31 : Value) (d32 : Value) (d33 : Value) (d34 : Value) (d35 : Value) (d36 : Value) (d37 : Value) (d38 : Value) (d39 : Value) (d40 : Value) (d41 : Value) (d42 : Value) (d43 : Value) (d44 : Value) (d45 : Value) (d46 : Value) (d47 : Value) (d48 : Value) (d49 : Value) (d50 : Value) (d51 : Value) (d52 : Value) (d53 : Value) (d54 : Value) (d55 : Value) : Met l yX12_thrown wsX12_thrown ({ frames := 0, cells := 0, slots := 0, locals := 0 }) (va_Pc [.ref h0] (zPre dC dI cI cZ sz [(h0, .inr (12, [.int th, d1, d2, d3, d4, d5, d6, d7, d8, d9, d10, d11, d12, d13, d14, d15, d16, d17, d18, d19, d20, d21, d22, d23, d24, d25, d26, d27, d28, d29, d30, d31, d32, d33, d34, d35, d36, d37, d38, d39, d40, d41, d42, d43, d44, d45, d46, d47, d48, d49, d50, d51, d52, d53, d54, d55]))])) (va_Qi (fun (r : Int32) (_ : Unit) => r = s_X12_thrown th) (fun (_ : Unit) _ => True) (fun _ => False)) 0 0 (fun _ => False) := by
  refine Met.ofW (cc := cX12_thrown) (maxL := 1) (ret := (some .int)) (by decide) rfl ?_
  intro p e s m args below meth c s₁ B hml hv
  obtain ⟨rfl, hsz, hP, hK, hD0, hG⟩ := hv
  have hx := B.exec
  have hb := B.bytes
  have hr := B.returns
  have hts := atoms_spec (ws := wsX12_thrown) B.pre
  have hown : s.vm.findClass RX12 = some m.cls := findClass_of_methodNamed B.named
  have hlocks := B.notSynchronized
  have hinX12 : ∀ w ∈ wsX120, w ∈ wsX12_thrown := by decide +kernel
  subst hsz
  have hS : va_S (fun _ : Nat => False) s.heap s.heap [] := va_S.rf
  have hP : va_P (dC, dI) vwCl [(h0, .inr (12, [.int th, d1, d2, d3, d4, d5, d6, d7, d8, d9, d10, d11, d12, d13, d14, d15, d16, d17, d18, d19, d20, d21, d22, d23, d24, d25, d26, d27, d28, d29, d30, d31, d32, d33, d34, d35, d36, d37, d38, d39, d40, d41, d42, d43, d44, d45, d46, d47, d48, d49, d50, d51, d52, d53, d54, d55]))] s.heap := hP
  have hl := lv_entry ([.ref h0]) (n := 1) (Nat.le_of_ble_eq_true rfl)
  rw [lg_entry_eq]
  generalize (lg_sl ([.ref h0]) ++ List.replicate (1 - (lg_sl ([.ref h0])).length) Slot.unset).toArray = ls at hl ⊢
  have hl : lv_has ls 1 [(0, .ref h0)] := hl
  refine lv_aload_n hx hb dX12_thrown_0 rfl (lv_at hl 0 rfl) ?_
  refine va_get (D := (dC, dI)) (ci := 12) (v := .int th) (C := RX12) (T := TX12) (N := 56) hx hb hts hinX12 hown hK hP 0 rfl rfl 0 (by decide) (hts (.fieldLink RX12 114 "DreamGuardModel" "thrown" "I") (by decide +kernel)) (fun _ h9 => h9) rfl dX12_thrown_1 ?_
  exact W.iret (v := th) hx hb hr (fun t ht hW => ⟨⟨th, (), rfl, (by unfold s_X12_thrown; first | rfl | simp), trivial⟩, hS.F ht⟩) hS.2.2 dX12_thrown_4

def s_X12_man : Int32 := 0
set_option maxHeartbeats 4000000 in
set_option maxRecDepth 100000 in
theorem c_X12_man (l : Launch) (dC : Nat → ClassId) (dI : Nat → Nat → Nat) (cI cZ : ClassId) (sz : Nat) (h0 : Nat) (d0 : Value) (d1 : Value) (d2 : Value) (d3 : Value) (d4 : Value) (d5 : Value) (d6 : Value) (d7 : Value) (d8 : Value) (d9 : Value) (d10 : Value) (d11 : Value) (d12 : Value) (d13 : Value) (d14 : Value) (d15 : Value) (d16 : Value) (d17 : Value) (d18 : Value) (d19 : Value) (d20 : Value) (d21 : Value) (d23 : Value) (d24 : Value) (d25 : Value) (d26 : Value) (d27 : Value) (d28 : Value) (d29 : Value) (d30 : Value) (d31 : Value) (d32 : Value) (d33 : Value) (d34 : Value) (d35 : Value) (d36 : Value) (d37 : Value) (d38 : Value) (d39 : Value) (d40 : Value) (d41 : Value) (d42 : Value) (d43 : Value) (d44 : Value) (d45 : Value) (d46 : Value) (d47 : Value) (d48 : Value) (d49 : Value) (d50 : Value) (d51 : Value) (d52 : Value) (d53 : Value) (d54 : Value) (d55 : Value) (p0 : Int32) (p1 : Int32) : Met l yX12_man wsX12_man ({ frames := 2, cells := 0, slots := 0, locals := 43 }) (va_Pc [.ref h0, .int p0, .int p1] (zPre dC dI cI cZ sz [(h0, .inr (12, [d0, d1, d2, d3, d4, d5, d6, d7, d8, d9, d10, d11, d12, d13, d14, d15, d16, d17, d18, d19, d20, d21, .int 0, d23, d24, d25, d26, d27, d28, d29, d30, d31, d32, d33, d34, d35, d36, d37, d38, d39, d40, d41, d42, d43, d44, d45, d46, d47, d48, d49, d50, d51, d52, d53, d54, d55]))])) (va_Qi (fun (r : Int32) (_ : Unit) => r = s_X12_man) (fun (_ : Unit) t => (va_P (dC, dI) vwCl [(h0, .inr (12, [.int 1, d1, d2, d3, d4, d5, d6, d7, d8, d9, d10, d11, d12, d13, d14, d15, d16, d17, d18, d19, d20, d21, .int 0, d23, d24, d25, d26, d27, d28, d29, d30, d31, d32, d33, d34, d35, d36, d37, d38, d39, d40, d41, d42, d43, d44, d45, d46, d47, d48, d49, d50, d51, d52, d53, d54, d55]))] t.heap ∧ va_D (va_A [(h0, .inr (12, [d0, d1, d2, d3, d4, d5, d6, d7, d8, d9, d10, d11, d12, d13, d14, d15, d16, d17, d18, d19, d20, d21, .int 0, d23, d24, d25, d26, d27, d28, d29, d30, d31, d32, d33, d34, d35, d36, d37, d38, d39, d40, d41, d42, d43, d44, d45, d46, d47, d48, d49, d50, d51, d52, d53, d54, d55]))] sz) [(h0, .inr (12, [.int 1, d1, d2, d3, d4, d5, d6, d7, d8, d9, d10, d11, d12, d13, d14, d15, d16, d17, d18, d19, d20, d21, .int 0, d23, d24, d25, d26, d27, d28, d29, d30, d31, d32, d33, d34, d35, d36, d37, d38, d39, d40, d41, d42, d43, d44, d45, d46, d47, d48, d49, d50, d51, d52, d53, d54, d55]))])) (va_A [(h0, .inr (12, [d0, d1, d2, d3, d4, d5, d6, d7, d8, d9, d10, d11, d12, d13, d14, d15, d16, d17, d18, d19, d20, d21, .int 0, d23, d24, d25, d26, d27, d28, d29, d30, d31, d32, d33, d34, d35, d36, d37, d38, d39, d40, d41, d42, d43, d44, d45, d46, d47, d48, d49, d50, d51, d52, d53, d54, d55]))] sz)) 0 0 (va_A [(h0, .inr (12, [d0, d1, d2, d3, d4, d5, d6, d7, d8, d9, d10, d11, d12, d13, d14, d15, d16, d17, d18, d19, d20, d21, .int 0, d23, d24, d25, d26, d27, d28, d29, d30, d31, d32, d33, d34, d35, d36, d37, d38, d39, d40, d41, d42, d43, d44, d45, d46, d47, d48, d49, d50, d51, d52, d53, d54, d55]))] sz) := by
  refine Met.ofW (cc := cX12_man) (maxL := 3) (ret := (some .int)) (by decide) rfl ?_
  intro p e s m args below meth c s₁ B hml hv
  obtain ⟨rfl, hsz, hP, hK, hD0, hG⟩ := hv
  have hx := B.exec
  have hb := B.bytes
  have hr := B.returns
  have hts := atoms_spec (ws := wsX12_man) B.pre
  have hown : s.vm.findClass RX12 = some m.cls := findClass_of_methodNamed B.named
  have hlocks := B.notSynchronized
  have hinX12 : ∀ w ∈ wsX120, w ∈ wsX12_man := by decide +kernel
  subst hsz
  have hD := hD0.self (sz := s.heap.size)
  generalize hAe : va_A [(h0, .inr (12, [d0, d1, d2, d3, d4, d5, d6, d7, d8, d9, d10, d11, d12, d13, d14, d15, d16, d17, d18, d19, d20, d21, .int 0, d23, d24, d25, d26, d27, d28, d29, d30, d31, d32, d33, d34, d35, d36, d37, d38, d39, d40, d41, d42, d43, d44, d45, d46, d47, d48, d49, d50, d51, d52, d53, d54, d55]))] s.heap.size = A at hD ⊢
  have hA : ∀ q : Nat, s.heap.size ≤ q → A q := fun q h => by rw [← hAe]; exact Or.inr h
  have hS : va_S A s.heap s.heap [] := va_S.rf
  have hP : va_P (dC, dI) vwCl [(h0, .inr (12, [d0, d1, d2, d3, d4, d5, d6, d7, d8, d9, d10, d11, d12, d13, d14, d15, d16, d17, d18, d19, d20, d21, .int 0, d23, d24, d25, d26, d27, d28, d29, d30, d31, d32, d33, d34, d35, d36, d37, d38, d39, d40, d41, d42, d43, d44, d45, d46, d47, d48, d49, d50, d51, d52, d53, d54, d55]))] s.heap := hP
  have hl := lv_entry ([.ref h0, .int p0, .int p1]) (n := 3) (Nat.le_of_ble_eq_true rfl)
  rw [lg_entry_eq]
  generalize (lg_sl ([.ref h0, .int p0, .int p1]) ++ List.replicate (3 - (lg_sl ([.ref h0, .int p0, .int p1])).length) Slot.unset).toArray = ls at hl ⊢
  have hl : lv_has ls 3 [(0, .ref h0), (1, .int p0), (2, .int p1)] := hl
  refine lv_aload_n hx hb dX12_man_0 rfl (lv_at hl 0 rfl) ?_
  refine lv_aload_n hx hb dX12_man_1 rfl (lv_at hl 0 rfl) ?_
  refine lv_iload_n hx hb dX12_man_2 rfl (lv_at hl 1 rfl) ?_
  have hPc := hP.sub (ws' := [(h0, .inr (12, [d0, d1, d2, d3, d4, d5, d6, d7, d8, d9, d10, d11, d12, d13, d14, d15, d16, d17, d18, d19, d20, d21, .int 0, d23, d24, d25, d26, d27, d28, d29, d30, d31, d32, d33, d34, d35, d36, d37, d38, d39, d40, d41, d42, d43, d44, d45, d46, d47, d48, d49, d50, d51, d52, d53, d54, d55]))]) [0] rfl
  have hDc := hD.sub (ws' := [(h0, .inr (12, [d0, d1, d2, d3, d4, d5, d6, d7, d8, d9, d10, d11, d12, d13, d14, d15, d16, d17, d18, d19, d20, d21, .int 0, d23, d24, d25, d26, d27, d28, d29, d30, d31, d32, d33, d34, d35, d36, d37, d38, d39, d40, d41, d42, d43, d44, d45, d46, d47, d48, d49, d50, d51, d52, d53, d54, d55]))]) [0] (by decide) rfl
  refine va_calli (va_runV (As := [.int p0]) (rest := [.ref h0]) ⟨hx, hb, hml, hown, hts⟩ (c_X12_isMan l dC dI cI cZ s.heap.size h0 d0 d1 d2 d3 d4 d5 d6 d7 d8 d9 d10 d11 d12 d13 d14 d15 d16 d17 d18 d19 d20 d21 d23 d24 d25 d26 d27 d28 d29 d30 d31 d32 d33 d34 d35 d36 d37 d38 d39 d40 d41 d42 d43 d44 d45 d46 d47 d48 d49 d50 d51 d52 d53 d54 d55 p0) (cwV 1 hts gX12_man_X12_isMan rfl rfl rfl (by decide +kernel) ⟨Nat.le_of_ble_eq_true rfl, Nat.le_of_ble_eq_true rfl⟩) (zPreV hPc hK hDc hG (ci := 12) (q0 := 0) rfl rfl) rfl rfl hl.1 rfl (lv_room (Nat.le_of_ble_eq_true rfl)) dX12_man_3 ⟨Nat.le_of_ble_eq_true rfl, Nat.le_of_ble_eq_true rfl⟩) hS (fun _ _ h => h.elim) (fun _ h => h.elim) (fun r1 u9 t9 H1 locs ht9 hvm hwr1 hB9 hz1 hk1 hS => ?_)
  replace hP := zKept hP hk1
  try clear hB9 hz1 hk1 hvm ht9 u9 hPc hDc
  generalize H1 = H at hP hS ⊢
  obtain rfl : r1 = 0 := hwr1.trans rfl
  refine lv_if_eq (tgt := 23) hx hb dX12_man_6 (by decide) (fun _ => ?_) (fun c9 => absurd (by decide) c9)
  refine lv_iconst (v := 1) hx hb dX12_man_23 (by decide) ?_
  refine va_put (D := (dC, dI)) (ci := 12) (v := .int 1) (ty := .int) (C := RX12) (T := TX12) (N := 56) hx hb hts hinX12 tyX12 tyX12_ok nmX12 hown hK hP hD hS 0 rfl rfl 0 (by decide) (hts (.fieldLink RX12 114 "DreamGuardModel" "thrown" "I") (by decide +kernel)) (fun _ h9 => h9) rfl (by decide +kernel) rfl rfl (Nat.le_of_ble_eq_true rfl) dX12_man_24 (fun H locs hP hD hS => ?_)
  have hP : va_P (dC, dI) vwCl [(h0, .inr (12, [.int 1, d1, d2, d3, d4, d5, d6, d7, d8, d9, d10, d11, d12, d13, d14, d15, d16, d17, d18, d19, d20, d21, .int 0, d23, d24, d25, d26, d27, d28, d29, d30, d31, d32, d33, d34, d35, d36, d37, d38, d39, d40, d41, d42, d43, d44, d45, d46, d47, d48, d49, d50, d51, d52, d53, d54, d55]))] H := hP
  have hD : va_D A [(h0, .inr (12, [.int 1, d1, d2, d3, d4, d5, d6, d7, d8, d9, d10, d11, d12, d13, d14, d15, d16, d17, d18, d19, d20, d21, .int 0, d23, d24, d25, d26, d27, d28, d29, d30, d31, d32, d33, d34, d35, d36, d37, d38, d39, d40, d41, d42, d43, d44, d45, d46, d47, d48, d49, d50, d51, d52, d53, d54, d55]))] := hD
  refine lv_aload_n hx hb dX12_man_27 rfl (lv_at hl 0 rfl) ?_
  refine va_get (D := (dC, dI)) (ci := 12) (v := .int 1) (C := RX12) (T := TX12) (N := 56) hx hb hts hinX12 hown hK hP 0 rfl rfl 0 (by decide) (hts (.fieldLink RX12 114 "DreamGuardModel" "thrown" "I") (by decide +kernel)) (fun _ h9 => h9) rfl dX12_man_28 ?_
  refine lv_iconst (v := 1) hx hb dX12_man_31 (by decide) ?_
  refine lv_icmp_ne (tgt := 37) hx hb dX12_man_32 (by decide) (fun c9 => absurd (by decide) c9) (fun _ => ?_)
  refine lv_iconst (v := 0) hx hb dX12_man_35 (by decide) ?_
  have hP9 := hP.sub (ws' := [(h0, .inr (12, [.int 1, d1, d2, d3, d4, d5, d6, d7, d8, d9, d10, d11, d12, d13, d14, d15, d16, d17, d18, d19, d20, d21, .int 0, d23, d24, d25, d26, d27, d28, d29, d30, d31, d32, d33, d34, d35, d36, d37, d38, d39, d40, d41, d42, d43, d44, d45, d46, d47, d48, d49, d50, d51, d52, d53, d54, d55]))]) [0] rfl
  have hD9 := hD.sub (ws' := [(h0, .inr (12, [.int 1, d1, d2, d3, d4, d5, d6, d7, d8, d9, d10, d11, d12, d13, d14, d15, d16, d17, d18, d19, d20, d21, .int 0, d23, d24, d25, d26, d27, d28, d29, d30, d31, d32, d33, d34, d35, d36, d37, d38, d39, d40, d41, d42, d43, d44, d45, d46, d47, d48, d49, d50, d51, d52, d53, d54, d55]))]) [0] (by decide) rfl
  exact W.iret (v := 0) hx hb hr (fun t ht hW => ⟨⟨0, (), rfl, (by unfold s_X12_man; first | rfl | simp), ⟨by rw [ht]; exact hP9, hD9⟩⟩, hS.F ht⟩) hS.2.2 dX12_man_36
