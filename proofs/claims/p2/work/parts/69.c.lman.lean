/-! the law's own man -/
noncomputable abbrev hLw : List Cond := Cond.codeWith yL_man cL_man 5 (some .int) [(0, 10, 13, 13)] :: (yALL ++ hG9)
theorem hbig_good : ∀ w ∈ yALL ++ hG9, goodWord w = true := fun w hw => (List.mem_append.mp hw).elim (yALL_good w) (hG9_good w)
theorem hbig_in : ∀ w ∈ yALL ++ hG9, w ∈ lw_tbl := fun w hw => (List.mem_append.mp hw).elim (yALL_in w) (hG9_in w)
noncomputable abbrev hTyJ (cI cZ cQ cG cJ : ClassId) : List (ClassId × FieldType) := zTy cI cZ cQ cG ++ [(cJ, .long)]
theorem hK4 {cI cZ cQ cG cJ : ClassId} {dC : Nat → ClassId} {dI : Nat → Nat → Nat} {U : State} (hK : va_K (dC, dI) vwCl (hTyJ cI cZ cQ cG cJ) U) : va_K (dC, dI) vwCl (zTy cI cZ cQ cG) U := ⟨hK.1, fun k q hk => hK.2 k q (by
  have hl : k < (zTy cI cZ cQ cG).length := (List.getElem?_eq_some_iff.mp hk).1
  rw [List.getElem?_append_left hl]
  exact hk)⟩
noncomputable def hOut (cJ : ClassId) (dC : Nat → ClassId) (dI : Nat → Nat → Nat) (ho : Nat) (H : Heap) : Prop := ∃ f : Nat → Int64, va_P (dC, dI) vwCl [(ho, .inl (cJ, 1, .inr (.inl f)))] H
noncomputable def hPreL (cI cZ cQ cG cJ : ClassId) (dC : Nat → ClassId) (dI : Nat → Nat → Nat) (ad : Nat → Nat) (ho sz : Nat) (h : zH) (sa : Nat) (U : State) : Prop := U.heap.size = sz ∧ va_P (dC, dI) vwCl (zW yTab cI cZ cQ cG ad 441 h) U.heap ∧ va_K (dC, dI) vwCl (hTyJ cI cZ cQ cG cJ) U ∧ hOut cJ dC dI ho U.heap ∧ zX sa U
theorem hBlindL {cI cZ cQ cG cJ : ClassId} {dC : Nat → ClassId} {dI : Nat → Nat → Nat} {ad : Nat → Nat} {h : zH} {av : List Value} {ho sz sa : Nat} : FrameBlind (va_Pc av (hPreL cI cZ cQ cG cJ dC dI ad ho sz h sa)) := fun a U g mk q => by
  obtain ⟨q0, q1, qP, qK, qO, qR, qU, qN, qF⟩ := q
  exact ⟨q0, q1, qP, va_K.moved (u := U) (U := U.calling g mk a) (Vm.Alike.refl U.vm) qK, qO, vk_R.same rfl qR, vx_Zq.moved (u := U) (U := U.calling g mk a) (Vm.Alike.refl U.vm) qU, vx_Zq.moved (u := U) (U := U.calling g mk a) (Vm.Alike.refl U.vm) qN, zF.moved (u := U) (U := U.calling g mk a) (Vm.Alike.refl U.vm) qF⟩
set_option maxHeartbeats 4000000 in
set_option maxRecDepth 100000 in
theorem c_Lman (l : Launch) (hlt : l.stackTraces = false) (cI cZ cQ cG cJ : ClassId) (dC : Nat → ClassId) (dI : Nat → Nat → Nat) (ad : Nat → Nat) (ho sz sa : Nat) (h : zH) (hm : (h.1 376 0).toInt ≤ 6) (p0 p1 : Int32) : Met l yL_man hLw ({ frames := 9, cells := 1, slots := 6, locals := 240 }) (va_Pc [.ref (ad 406), .int p0, .int p1, .ref ho] (hPreL cI cZ cQ cG cJ dC dI ad ho sz h sa)) (va_Qi (fun (r : Int32) (_ : Unit) => True) (fun (_ : Unit) t => hOut cJ dC dI ho t.heap) (fun q => q = ho)) 1 6 (fun q => q = ho) := by
  refine va_MetW (cc := cL_man) (maxL := 5) (ret := (some .int)) (hh := [(0, 10, 13, 13)]) (by decide) rfl ?_
  intro p e s m args below meth c s₁ B hml hv
  obtain ⟨rfl, hsz, hP, hKJ, ⟨f, hO⟩, hX⟩ := hv
  have hK := hK4 hKJ
  have hx := B.exec
  have hb := B.bytes
  have hr := B.returns
  have hts0 := atoms_spec (ws := hLw) B.pre
  have hts : ∀ w ∈ yALL ++ hG9, w.before _ s = true := fun w hw => hts0 w (List.mem_cons_of_mem _ hw)
  have hown : s.vm.findClass RL = some m.cls := findClass_of_methodNamed B.named
  have hlocks := B.notSynchronized
  have htab : c.exceptionTable.toList = tableOf [(0, 10, 13, 13)] := vx_table (x := yL_man) B (hts0 (.codeWith yL_man cL_man 5 (some .int) [(0, 10, 13, 13)]) List.mem_cons_self)
  subst hsz
  have hS0 : va_S (fun _ : Nat => False) s.heap s.heap [] := va_S.rf
  have hS : va_S (fun q : Nat => q = ho) s.heap s.heap [] := va_S.rf
  have hl := lv_entry ([.ref (ad 406), .int p0, .int p1, .ref ho]) (n := 5) (Nat.le_of_ble_eq_true rfl)
  rw [lg_entry_eq]
  generalize (lg_sl ([.ref (ad 406), .int p0, .int p1, .ref ho]) ++ List.replicate (5 - (lg_sl ([.ref (ad 406), .int p0, .int p1, .ref ho])).length) Slot.unset).toArray = ls at hl ⊢
  have hl : lv_has ls 5 [(0, .ref (ad 406)), (1, .int p0), (2, .int p1), (3, .ref ho)] := hl
  refine lv_aload_n hx hb dL_man_0 rfl (lv_at hl 3 rfl) ?_
  refine lv_iconst (v := 0) hx hb dL_man_1 (by decide) ?_
  refine lv_aload_n hx hb dL_man_2 rfl (lv_at hl 0 rfl) ?_
  refine lv_iload_n hx hb dL_man_3 rfl (lv_at hl 1 rfl) ?_
  refine lv_iload_n hx hb dL_man_4 rfl (lv_at hl 2 rfl) ?_
  have hwd : ∀ w ∈ [Cond.methodLink RL 7 yX11_man, .instanceMethod yX11_man, .selects RX11 yX11_man yX11_man, .initialized RX11], w ∈ yALL ++ hG9 := by
    intro w hw
    simp only [List.mem_cons, List.not_mem_nil, or_false] at hw
    rcases hw with rfl | rfl | rfl | rfl
    · exact List.mem_append_left _ (yWat_in (i := 1011) (by decide +kernel))
    · exact List.mem_append_left _ (yWat_in (i := 1012) (by decide +kernel))
    · exact List.mem_append_left _ (yWat_in (i := 1013) (by decide +kernel))
    · exact List.mem_append_left _ (yWat_in (i := 109) (by decide +kernel))
  refine vx_calli (vx_runV (l := l) (As := [.int p0, .int p1]) (rest := [.int 0, .ref ho]) ⟨hx, hb, hml, hown, hts⟩ (c_man l hlt cI cZ cQ cG dC dI ad s.heap.size sa h hm p0 p1) (cwV 2 hts (zgood hbig_good (List.mem_append_left _ (yWat_in (i := 1014) (by decide +kernel))) [Cond.methodLink RL 7 yX11_man, .instanceMethod yX11_man, .selects RX11 yX11_man yX11_man, .initialized RX11] hwd) rfl rfl rfl (by decide +kernel) ⟨Nat.le_of_ble_eq_true rfl, Nat.le_of_ble_eq_true rfl⟩) ⟨hBlindX, va_recv hK hP (ci := 11) (q := (RX11, TX11, 20)) (q0 := 406) rfl (hObj (by decide) hT406), fun U hU hW => ⟨rfl, ⟨by rw [hU], by rw [hU]; exact hP, va_K.moved hW.alike hK⟩, zX.call hX hS0 hU hW⟩⟩ rfl rfl hl.1 rfl (lv_room (Nat.le_of_ble_eq_true rfl)) dL_man_5 ⟨Nat.le_of_ble_eq_true rfl, Nat.le_of_ble_eq_true rfl⟩) hS (fun _ _ h => h.elim) (fun _ h => h.elim) (fun _ _ h => h.elim) (fun E ce q9 u9 t9 H1 locs ht9 hvm hp9 hB9 hz1 hk1 hS hce hcv hcl => ?_) (fun r9 u9 t9 H1 locs ht9 hvm hw9 hB9 hz1 hk1 hS => ?_)
  · obtain rfl : E = zE := hB9
    have hO1 : va_P (dC, dI) vwCl [(ho, .inl (cJ, 1, .inr (.inl f)))] H1 := hO.kept (fun k q hq => hk1 q.1 (hO k q hq).lt (fun z => z))
    refine vx_catch (name := zE) hown [] _ [] htab (fun z hz => nomatch hz) (by decide) (by decide) (hts _ (List.mem_append_left _ (yWat_in (i := 1010) (by decide +kernel)))) (hX.2.2.2.use (.castable zE zE) (by decide +kernel)) hce hcv hcl ?_
    refine lv_astore (lv' := [(4, .ref q9), (0, .ref (ad 406)), (1, .int p0), (2, .int p1), (3, .ref ho)]) hx hb dL_man_13 hl (by decide) rfl (fun ls hl => ?_)
    refine lv_iconst (v := 1) hx hb dL_man_15 (by decide) ?_
    exact W.iret (v := 1) hx hb hr (fun t ht hW => ⟨⟨1, (), rfl, trivial, f, by rw [ht]; exact hO1⟩, hS.F ht⟩) hS.2.2 dL_man_16
  · have hO1 : va_P (dC, dI) vwCl [(ho, .inl (cJ, 1, .inr (.inl f)))] H1 := hO.kept (fun k q hq => hk1 q.1 (hO k q hq).lt (fun z => z))
    have hD1 : va_D (fun q : Nat => q = ho) [(ho, (.inl (cJ, 1, .inr (.inl f)) : va_E))] := by
      refine ⟨fun i j p q hi hj _ => ?_, fun k q hk => ?_⟩
      · have h1 : i < 1 := (List.getElem?_eq_some_iff.mp hi).1
        have h2 : j < 1 := (List.getElem?_eq_some_iff.mp hj).1
        omega
      · have h1 : k < 1 := (List.getElem?_eq_some_iff.mp hk).1
        rw [show k = 0 by omega] at hk
        cases hk
        rfl
    refine lv_i2l (v := r9.toInt64) hx hb dL_man_8 rfl ?_
    refine va_last (i := 0) hx hb hKJ hO1 hD1 hS 0 4 rfl rfl (show ¬ ((0 : Int32) < 0 ∨ 1 ≤ (0 : Int32).toNatClampNeg) by decide) dL_man_9 (fun H1 locs hP1 _ hS => ?_)
    refine lv_goto (tgt := 17) hx hb dL_man_10 (by decide) ?_
    refine lv_iconst (v := 0) hx hb dL_man_17 (by decide) ?_
    exact W.iret (v := 0) hx hb hr (fun t ht hW => ⟨⟨0, (), rfl, trivial, _, by rw [ht]; exact hP1⟩, hS.F ht⟩) hS.2.2 dL_man_18
