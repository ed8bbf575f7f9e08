theorem zmanS {args : Array Value} {s : State} (hts : ∀ w ∈ wsX11_man, w.before args s = true) (hF : zF s) : ∀ w ∈ zAtS, w.before args s = true := by
  intro w hw
  cases h9 : goodWord w
  · exact hF.use w (List.mem_filter.mpr ⟨hw, by rw [h9]; rfl⟩)
  · exact hts w (List.mem_cons_of_mem _ (List.mem_append_right _ (List.mem_filter.mpr ⟨hw, h9⟩)))
set_option maxHeartbeats 4000000 in
set_option maxRecDepth 100000 in
theorem c_X11_man (l : Launch) (hlt : l.stackTraces = false) (dC : Nat → ClassId) (dI : Nat → Nat → Nat) (cI cZ : ClassId) (sz sa : Nat) (h0 : Nat) (h1 : Nat) (d0 : Value) (d1 : Value) (d2 : Value) (d3 : Value) (d5 : Value) (d6 : Value) (d7 : Value) (d8 : Value) (d9 : Value) (d10 : Value) (d11 : Value) (d12 : Value) (d13 : Value) (d14 : Value) (d15 : Value) (d16 : Value) (d17 : Value) (d18 : Value) (d19 : Value) (v1 : Value) (v2 : Value) (v3 : Value) (v4 : Value) (p0 : Int32) (p1 : Int32) : vx_Met l yX11_man wsX11_man ({ frames := 8, cells := 1, slots := 6, locals := 200 }) (va_Pc [.ref h0, .int p0, .int p1] (zPreX dC dI cI cZ sz [(h0, .inr (11, [d0, d1, d2, d3, .ref h1, d5, d6, d7, d8, d9, d10, d11, d12, d13, d14, d15, d16, d17, d18, d19])), (h1, .inr (1, [.int 0, v1, v2, v3, v4]))] sa)) (va_Qi (fun (r : Int32) (_ : Unit) => False) (fun (_ : Unit) _ => True) (fun _ => False)) (vx_X (fun _ : Unit => True) (fun E _ _ => E = zE) (fun _ => False)) 1 6 (fun _ => False) := by
  refine vx_ofW (cc := cX11_man) (maxL := 3) (ret := (some .int)) (by decide) rfl ?_
  intro p e s m args below meth c s₁ B hml htab hv
  obtain ⟨rfl, ⟨hsz, hP, hK, hD0, hG⟩, hR1, hU1, hN1, hF1⟩ := hv
  have hx := B.exec
  have hb := B.bytes
  have hr := B.returns
  have hts := atoms_spec (ws := wsX11_man) B.pre
  have hown : s.vm.findClass RX11 = some m.cls := findClass_of_methodNamed B.named
  have hlocks := B.notSynchronized
  have hinX11 : ∀ w ∈ wsX110, w ∈ wsX11_man := by decide +kernel
  subst hsz
  have hS : va_S (fun _ : Nat => False) s.heap s.heap [] := va_S.rf
  have hP : va_P (dC, dI) vwCl [(h0, .inr (11, [d0, d1, d2, d3, .ref h1, d5, d6, d7, d8, d9, d10, d11, d12, d13, d14, d15, d16, d17, d18, d19])), (h1, .inr (1, [.int 0, v1, v2, v3, v4]))] s.heap := hP
  have hl := lv_entry ([.ref h0, .int p0, .int p1]) (n := 3) (Nat.le_of_ble_eq_true rfl)
  rw [lg_entry_eq]
  generalize (lg_sl ([.ref h0, .int p0, .int p1]) ++ List.replicate (3 - (lg_sl ([.ref h0, .int p0, .int p1])).length) Slot.unset).toArray = ls at hl ⊢
  have hl : lv_has ls 3 [(0, .ref h0), (1, .int p0), (2, .int p1)] := hl
  refine lv_aload_n hx hb dX11_man_0 rfl (lv_at hl 0 rfl) ?_
  refine va_get (D := (dC, dI)) (ci := 11) (v := .ref h1) (C := RX11) (T := TX11) (N := 20) hx hb hts hinX11 hown hK hP 0 rfl rfl 4 (by decide) (hts (.fieldLink RX11 42 "DreamGuard" "fort" "LDreamGuard$Fort;") (by decide +kernel)) (fun _ h9 => h9) rfl dX11_man_1 ?_
  refine lv_iload_n hx hb dX11_man_4 rfl (lv_at hl 1 rfl) ?_
  have hPc := hP.sub (ws' := [(h1, .inr (1, [.int 0, v1, v2, v3, v4]))]) [1] rfl
  have hDc := hD0.sub (ws' := [(h1, .inr (1, [.int 0, v1, v2, v3, v4]))]) [1] (by decide) rfl
  refine va_calli (va_runV (As := [.int p0]) (rest := []) ⟨hx, hb, hml, hown, hts⟩ (c_X1_hasMan l dC dI cI cZ s.heap.size h1 0 v1 v2 v3 v4 p0) (cwV 1 hts gX11_man_X1_hasMan rfl rfl rfl (by decide +kernel) ⟨Nat.le_of_ble_eq_true rfl, Nat.le_of_ble_eq_true rfl⟩) (zPreV hPc hK hDc hG (ci := 1) (q0 := 0) rfl rfl) rfl rfl hl.1 rfl (lv_room (Nat.le_of_ble_eq_true rfl)) dX11_man_5 ⟨Nat.le_of_ble_eq_true rfl, Nat.le_of_ble_eq_true rfl⟩) hS (fun _ _ h => h.elim) (fun _ h => h.elim) (fun r1 u9 t9 H1 locs ht9 hvm hwr1 hB9 hz1 hk1 hS => ?_)
  replace hP := zKept hP hk1
  try clear hB9 hz1 hk1 hvm ht9 u9 hPc hDc
  generalize H1 = H at hP hS ⊢
  obtain rfl : r1 = 0 := hwr1.trans (zs_hasMan0 p0)
  refine lv_if_eq (tgt := 21) hx hb dX11_man_8 (by decide) (fun _ => ?_) (fun c9 => absurd (by decide) c9)
  exact z_throwS (A := fun _ => False) hx hb hlt hown (hts (.classLink RX11 194 zE) (by decide +kernel)) (hts (.initialized zE) (by decide +kernel)) hR1 (fun w h => zmanS hts hF1 w h) hU1 hN1 hS (hl.1.trans hml.symm) dX11_man_21 dX11_man_24 dX11_man_25 dX11_man_27 dX11_man_30 (fun x h9 => (htab x h9).elim) (Nat.le_of_ble_eq_true rfl) (Nat.le_of_ble_eq_true rfl) (Nat.le_of_ble_eq_true rfl) (Nat.le_of_ble_eq_true rfl) hlocks (fun t ha hz hq => ⟨(), trivial, rfl, Nat.le_trans hS.1 hz, fun q h1 _ => (hq q (Nat.lt_of_lt_of_le h1 hS.1)).trans (hS.2.1 q h1 (fun z => z))⟩) hS.2.2 (Nat.le_refl _) (Nat.le_refl _)

set_option maxHeartbeats 4000000 in
set_option maxRecDepth 100000 in
/-- the law's own 'man': on a fresh object it catches, and answers 1 -/
theorem c_L_man (l : Launch) (hlt : l.stackTraces = false) (dC : Nat → ClassId) (dI : Nat → Nat → Nat) (cI cZ : ClassId) (sz sa ho : Nat) (h0 : Nat) (h1 : Nat) (d0 : Value) (d1 : Value) (d2 : Value) (d3 : Value) (d5 : Value) (d6 : Value) (d7 : Value) (d8 : Value) (d9 : Value) (d10 : Value) (d11 : Value) (d12 : Value) (d13 : Value) (d14 : Value) (d15 : Value) (d16 : Value) (d17 : Value) (d18 : Value) (d19 : Value) (v1 : Value) (v2 : Value) (v3 : Value) (v4 : Value) (p0 : Int32) (p1 : Int32) : Met l yL_man wsL_man ({ frames := 9, cells := 1, slots := 6, locals := 240 }) (va_Pc [.ref h0, .int p0, .int p1, .ref ho] (zPreX dC dI cI cZ sz [(h0, .inr (11, [d0, d1, d2, d3, .ref h1, d5, d6, d7, d8, d9, d10, d11, d12, d13, d14, d15, d16, d17, d18, d19])), (h1, .inr (1, [.int 0, v1, v2, v3, v4]))] sa)) (va_Qi (fun (r : Int32) (_ : Unit) => r = 1) (fun (_ : Unit) _ => True) (fun _ => False)) 1 6 (fun _ => False) := by
  refine va_MetW (cc := cL_man) (maxL := 5) (ret := (some .int)) (hh := [(0, 10, 13, 13)]) (by decide) rfl ?_
  intro p e s m args below meth c s₁ B hml hv
  obtain ⟨rfl, ⟨hsz, hP, hK, hD0, hG⟩, hX⟩ := hv
  have hx := B.exec
  have hb := B.bytes
  have hr := B.returns
  have hts := atoms_spec (ws := wsL_man) B.pre
  have hown : s.vm.findClass RL = some m.cls := findClass_of_methodNamed B.named
  have hlocks := B.notSynchronized
  have htab : c.exceptionTable.toList = tableOf [(0, 10, 13, 13)] := vx_table (x := yL_man) B (hts (.codeWith yL_man cL_man 5 (some .int) [(0, 10, 13, 13)]) List.mem_cons_self)
  subst hsz
  have hS : va_S (fun _ : Nat => False) s.heap s.heap [] := va_S.rf
  have hl := lv_entry ([.ref h0, .int p0, .int p1, .ref ho]) (n := 5) (Nat.le_of_ble_eq_true rfl)
  rw [lg_entry_eq]
  generalize (lg_sl ([.ref h0, .int p0, .int p1, .ref ho]) ++ List.replicate (5 - (lg_sl ([.ref h0, .int p0, .int p1, .ref ho])).length) Slot.unset).toArray = ls at hl ⊢
  have hl : lv_has ls 5 [(0, .ref h0), (1, .int p0), (2, .int p1), (3, .ref ho)] := hl
  refine lv_aload_n hx hb dL_man_0 rfl (lv_at hl 3 rfl) ?_
  refine lv_iconst (v := 0) hx hb dL_man_1 (by decide) ?_
  refine lv_aload_n hx hb dL_man_2 rfl (lv_at hl 0 rfl) ?_
  refine lv_iload_n hx hb dL_man_3 rfl (lv_at hl 1 rfl) ?_
  refine lv_iload_n hx hb dL_man_4 rfl (lv_at hl 2 rfl) ?_
  refine vx_calli (vx_runV (As := [.int p0, .int p1]) (rest := [.int 0, .ref ho]) ⟨hx, hb, hml, hown, hts⟩ (c_X11_man l hlt dC dI cI cZ s.heap.size sa h0 h1 d0 d1 d2 d3 d5 d6 d7 d8 d9 d10 d11 d12 d13 d14 d15 d16 d17 d18 d19 v1 v2 v3 v4 p0 p1) (cwV 2 hts gL_man_X11_man rfl rfl rfl (by decide +kernel) ⟨Nat.le_of_ble_eq_true rfl, Nat.le_of_ble_eq_true rfl⟩) ⟨zBlindX, va_recv hK hP (ci := 11) (q := (RX11, TX11, 20)) (q0 := 0) rfl rfl, fun U hU hW => ⟨rfl, ⟨by rw [hU], by rw [hU]; exact hP, va_K.moved hW.alike hK, hD0, hG.warm hW⟩, zX.call hX hS hU hW⟩⟩ rfl rfl hl.1 rfl (lv_room (Nat.le_of_ble_eq_true rfl)) dL_man_5 ⟨Nat.le_of_ble_eq_true rfl, Nat.le_of_ble_eq_true rfl⟩) hS (fun _ _ h => h.elim) (fun _ h => h.elim) (fun _ _ h => h.elim) (fun E ce q9 u9 t9 H1 locs ht9 hvm hp9 hB9 hz1 hk1 hS hce hcv hcl => ?_) (fun r9 u9 t9 H1 locs ht9 hvm hw9 hB9 hz1 hk1 hS => hw9.elim)
  obtain rfl : E = zE := hB9
  refine vx_catch (name := zE) hown [] _ [] htab (fun z hz => nomatch hz) (by decide) (by decide) (hts (.classLink RL 13 zE) (by decide +kernel)) (hX.2.2.2.use (.castable zE zE) (by decide +kernel)) hce hcv hcl ?_
  refine lv_astore (lv' := [(4, .ref q9), (0, .ref h0), (1, .int p0), (2, .int p1), (3, .ref ho)]) hx hb dL_man_13 hl (by decide) rfl (fun ls hl => ?_)
  refine lv_iconst (v := 1) hx hb dL_man_15 (by decide) ?_
  exact W.iret (v := 1) hx hb hr (fun t ht hW => ⟨⟨1, (), rfl, rfl, trivial⟩, hS.F ht⟩) hS.2.2 dL_man_16
