/-! contracts by hand: hasMan, in, snow, man, the law's own man -/
theorem dX1_hasMan_0 : decode cX1_hasMan 0 = .ok (.iload_n 1, 1) := by decide +kernel
theorem dX1_hasMan_1 : decode cX1_hasMan 1 = .ok (.ifCond .lt 15, 3) := by decide +kernel
theorem dX1_hasMan_4 : decode cX1_hasMan 4 = .ok (.iload_n 1, 1) := by decide +kernel
theorem dX1_hasMan_5 : decode cX1_hasMan 5 = .ok (.aload_n 0, 1) := by decide +kernel
theorem dX1_hasMan_6 : decode cX1_hasMan 6 = .ok (.getfield 9, 3) := by decide +kernel
theorem dX1_hasMan_9 : decode cX1_hasMan 9 = .ok (.if_icmp .ge 7, 3) := by decide +kernel
theorem dX1_hasMan_12 : decode cX1_hasMan 12 = .ok (.iconst 1, 1) := by decide +kernel
theorem dX1_hasMan_13 : decode cX1_hasMan 13 = .ok (.goto 4, 3) := by decide +kernel
theorem dX1_hasMan_16 : decode cX1_hasMan 16 = .ok (.iconst 0, 1) := by decide +kernel
theorem dX1_hasMan_17 : decode cX1_hasMan 17 = .ok (.ireturn, 1) := by decide +kernel
theorem dX11_man_0 : decode cX11_man 0 = .ok (.aload_n 0, 1) := by decide +kernel
theorem dX11_man_1 : decode cX11_man 1 = .ok (.getfield 42, 3) := by decide +kernel
theorem dX11_man_4 : decode cX11_man 4 = .ok (.iload_n 1, 1) := by decide +kernel
theorem dX11_man_5 : decode cX11_man 5 = .ok (.invokevirtual 190, 3) := by decide +kernel
theorem dX11_man_8 : decode cX11_man 8 = .ok (.ifCond .eq 13, 3) := by decide +kernel
theorem dX11_man_11 : decode cX11_man 11 = .ok (.iload_n 2, 1) := by decide +kernel
theorem dX11_man_12 : decode cX11_man 12 = .ok (.ifCond .lt 9, 3) := by decide +kernel
theorem dX11_man_15 : decode cX11_man 15 = .ok (.iload_n 2, 1) := by decide +kernel
theorem dX11_man_16 : decode cX11_man 16 = .ok (.bipush 6, 2) := by decide +kernel
theorem dX11_man_18 : decode cX11_man 18 = .ok (.if_icmp .le 13, 3) := by decide +kernel
theorem dX11_man_21 : decode cX11_man 21 = .ok (.new 194, 3) := by decide +kernel
theorem dX11_man_24 : decode cX11_man 24 = .ok (.dup, 1) := by decide +kernel
theorem dX11_man_25 : decode cX11_man 25 = .ok (.ldc 196, 2) := by decide +kernel
theorem dX11_man_27 : decode cX11_man 27 = .ok (.invokespecial 198, 3) := by decide +kernel
theorem dX11_man_30 : decode cX11_man 30 = .ok (.athrow, 1) := by decide +kernel
theorem dX11_man_31 : decode cX11_man 31 = .ok (.iload_n 2, 1) := by decide +kernel
theorem dX11_man_32 : decode cX11_man 32 = .ok (.tableswitch 100 0 5 #[40, 50, 60, 70, 80, 90], 40) := by decide +kernel
theorem dX11_man_72 : decode cX11_man 72 = .ok (.aload_n 0, 1) := by decide +kernel
theorem dX11_man_73 : decode cX11_man 73 = .ok (.getfield 42, 3) := by decide +kernel
theorem dX11_man_76 : decode cX11_man 76 = .ok (.getfield 201, 3) := by decide +kernel
theorem dX11_man_79 : decode cX11_man 79 = .ok (.iload_n 1, 1) := by decide +kernel
theorem dX11_man_80 : decode cX11_man 80 = .ok (.iaload, 1) := by decide +kernel
theorem dX11_man_81 : decode cX11_man 81 = .ok (.ireturn, 1) := by decide +kernel
theorem dX11_man_82 : decode cX11_man 82 = .ok (.aload_n 0, 1) := by decide +kernel
theorem dX11_man_83 : decode cX11_man 83 = .ok (.getfield 49, 3) := by decide +kernel
theorem dX11_man_86 : decode cX11_man 86 = .ok (.getfield 204, 3) := by decide +kernel
theorem dX11_man_89 : decode cX11_man 89 = .ok (.iload_n 1, 1) := by decide +kernel
theorem dX11_man_90 : decode cX11_man 90 = .ok (.iaload, 1) := by decide +kernel
theorem dX11_man_91 : decode cX11_man 91 = .ok (.ireturn, 1) := by decide +kernel
theorem dX11_man_92 : decode cX11_man 92 = .ok (.aload_n 0, 1) := by decide +kernel
theorem dX11_man_93 : decode cX11_man 93 = .ok (.getfield 49, 3) := by decide +kernel
theorem dX11_man_96 : decode cX11_man 96 = .ok (.getfield 207, 3) := by decide +kernel
theorem dX11_man_99 : decode cX11_man 99 = .ok (.iload_n 1, 1) := by decide +kernel
theorem dX11_man_100 : decode cX11_man 100 = .ok (.iaload, 1) := by decide +kernel
theorem dX11_man_101 : decode cX11_man 101 = .ok (.ireturn, 1) := by decide +kernel
theorem dX11_man_102 : decode cX11_man 102 = .ok (.aload_n 0, 1) := by decide +kernel
theorem dX11_man_103 : decode cX11_man 103 = .ok (.getfield 49, 3) := by decide +kernel
theorem dX11_man_106 : decode cX11_man 106 = .ok (.getfield 210, 3) := by decide +kernel
theorem dX11_man_109 : decode cX11_man 109 = .ok (.iload_n 1, 1) := by decide +kernel
theorem dX11_man_110 : decode cX11_man 110 = .ok (.iaload, 1) := by decide +kernel
theorem dX11_man_111 : decode cX11_man 111 = .ok (.ireturn, 1) := by decide +kernel
theorem dX11_man_112 : decode cX11_man 112 = .ok (.aload_n 0, 1) := by decide +kernel
theorem dX11_man_113 : decode cX11_man 113 = .ok (.getfield 49, 3) := by decide +kernel
theorem dX11_man_116 : decode cX11_man 116 = .ok (.getfield 213, 3) := by decide +kernel
theorem dX11_man_119 : decode cX11_man 119 = .ok (.iload_n 1, 1) := by decide +kernel
theorem dX11_man_120 : decode cX11_man 120 = .ok (.iaload, 1) := by decide +kernel
theorem dX11_man_121 : decode cX11_man 121 = .ok (.ireturn, 1) := by decide +kernel
theorem dX11_man_122 : decode cX11_man 122 = .ok (.aload_n 0, 1) := by decide +kernel
theorem dX11_man_123 : decode cX11_man 123 = .ok (.getfield 49, 3) := by decide +kernel
theorem dX11_man_126 : decode cX11_man 126 = .ok (.getfield 216, 3) := by decide +kernel
theorem dX11_man_129 : decode cX11_man 129 = .ok (.iload_n 1, 1) := by decide +kernel
theorem dX11_man_130 : decode cX11_man 130 = .ok (.iaload, 1) := by decide +kernel
theorem dX11_man_131 : decode cX11_man 131 = .ok (.ireturn, 1) := by decide +kernel
theorem dX11_man_132 : decode cX11_man 132 = .ok (.aload_n 0, 1) := by decide +kernel
theorem dX11_man_133 : decode cX11_man 133 = .ok (.getfield 49, 3) := by decide +kernel
theorem dX11_man_136 : decode cX11_man 136 = .ok (.getfield 219, 3) := by decide +kernel
theorem dX11_man_139 : decode cX11_man 139 = .ok (.iload_n 1, 1) := by decide +kernel
theorem dX11_man_140 : decode cX11_man 140 = .ok (.iaload, 1) := by decide +kernel
theorem dX11_man_141 : decode cX11_man 141 = .ok (.ireturn, 1) := by decide +kernel
theorem dL_man_0 : decode cL_man 0 = .ok (.aload_n 3, 1) := by decide +kernel
theorem dL_man_1 : decode cL_man 1 = .ok (.iconst 0, 1) := by decide +kernel
theorem dL_man_2 : decode cL_man 2 = .ok (.aload_n 0, 1) := by decide +kernel
theorem dL_man_3 : decode cL_man 3 = .ok (.iload_n 1, 1) := by decide +kernel
theorem dL_man_4 : decode cL_man 4 = .ok (.iload_n 2, 1) := by decide +kernel
theorem dL_man_5 : decode cL_man 5 = .ok (.invokevirtual 7, 3) := by decide +kernel
theorem dL_man_8 : decode cL_man 8 = .ok (.i2l, 1) := by decide +kernel
theorem dL_man_9 : decode cL_man 9 = .ok (.lastore, 1) := by decide +kernel
theorem dL_man_10 : decode cL_man 10 = .ok (.goto 7, 3) := by decide +kernel
theorem dL_man_13 : decode cL_man 13 = .ok (.astore 4, 2) := by decide +kernel
theorem dL_man_15 : decode cL_man 15 = .ok (.iconst 1, 1) := by decide +kernel
theorem dL_man_16 : decode cL_man 16 = .ok (.ireturn, 1) := by decide +kernel
theorem dL_man_17 : decode cL_man 17 = .ok (.iconst 0, 1) := by decide +kernel
theorem dL_man_18 : decode cL_man 18 = .ok (.ireturn, 1) := by decide +kernel
theorem hT406 : yTab 406 = .inl (11, [355, 365, 367, 376, 378, 9, 17, 25, 0, 380, 388, 392, 396, 399, 404, 405, 406, 407, 0, 1]) := yE1_eq (by decide +kernel)
theorem hT376 : yTab 376 = .inl (1, [0, 0, 0, 377, 33]) := yE1_eq (by decide +kernel)
theorem hT7 : yTab 7 = .inl (8, [2, 3, 4, 5, 6, 7, 8, 0, 0, 0]) := yE1_eq (by decide +kernel)
theorem hT375 : yTab 375 = .inr (0, 6, []) := yE1_eq (by decide +kernel)
theorem hT0 : yTab 0 = .inr (0, 6, []) := yE1_eq (by decide +kernel)
theorem hT1 : yTab 1 = .inr (0, 6, []) := yE1_eq (by decide +kernel)
theorem hT2 : yTab 2 = .inr (0, 6, []) := yE1_eq (by decide +kernel)
theorem hT3 : yTab 3 = .inr (0, 6, []) := yE1_eq (by decide +kernel)
theorem hT4 : yTab 4 = .inr (0, 6, []) := yE1_eq (by decide +kernel)
theorem hT5 : yTab 5 = .inr (0, 6, []) := yE1_eq (by decide +kernel)
section HW
variable {cI cZ cQ cG : ClassId} {dC : Nat → ClassId} {dI : Nat → Nat → Nat} {ad : Nat → Nat} {h : zH}
theorem hObj {id ci : Nat} {fk : List Nat} (hid : id < 441) (ht : yTab id = .inl (ci, fk)) : (zW yTab cI cZ cQ cG ad 441 h)[id]? = some (ad id, .inr (ci, zfs ad h id fk)) := by
  rw [zW_at hid, zce_obj ht]
theorem hRow {id n : Nat} {r : List Nat} (hid : id < 441) (ht : yTab id = .inr (0, n, r)) : (zW yTab cI cZ cQ cG ad 441 h)[id]? = some (ad id, .inl (cI, n, .inl (h.1 id))) := by
  rw [zW_at hid, zce_i ht]
theorem hfi {id fi : Nat} {fk : List Nat} (hk : fk[fi]? = some 0) : (zfs ad h id fk)[fi]? = some (.int (h.1 id fi)) := zfs_at hk
theorem hfr {id fi k : Nat} {fk : List Nat} (hk : fk[fi]? = some (k + 2)) : (zfs ad h id fk)[fi]? = some (.ref (ad k)) := zfs_at hk
noncomputable def hPre (cI cZ cQ cG : ClassId) (dC : Nat → ClassId) (dI : Nat → Nat → Nat) (ad : Nat → Nat) (sz : Nat) (h : zH) (U : State) : Prop := U.heap.size = sz ∧ va_P (dC, dI) vwCl (zW yTab cI cZ cQ cG ad 441 h) U.heap ∧ va_K (dC, dI) vwCl (zTy cI cZ cQ cG) U
theorem hBlind {av : List Value} {sz : Nat} : FrameBlind (va_Pc av (hPre cI cZ cQ cG dC dI ad sz h)) := fun a U g mk q => by
  obtain ⟨q0, q1, qP, qK⟩ := q
  exact ⟨q0, q1, qP, va_K.moved (u := U) (U := U.calling g mk a) (Vm.Alike.refl U.vm) qK⟩
end HW
noncomputable def hman (m v : Int32) (r : Int32) : Prop := (r = 0 ∧ (v < 0 ∨ m ≤ v)) ∨ (r = 1 ∧ ¬ v < 0 ∧ ¬ m ≤ v)
set_option maxHeartbeats 4000000 in
theorem c_hasMan (l : Launch) (cI cZ cQ cG : ClassId) (dC : Nat → ClassId) (dI : Nat → Nat → Nat) (ad : Nat → Nat) (sz : Nat) (h : zH) (p0 : Int32) : Met l yX1_hasMan (Cond.code yX1_hasMan cX1_hasMan 2 (some .boolean) :: yALL) ({ frames := 1, cells := 0, slots := 0, locals := 30 }) (va_Pc [.ref (ad 376), .int p0] (hPre cI cZ cQ cG dC dI ad sz h)) (va_Qi (fun (r : Int32) (_ : Unit) => hman (h.1 376 0) p0 r) (fun (_ : Unit) _ => True) (fun _ => False)) 0 0 (fun _ => False) := by
  refine Met.ofW (cc := cX1_hasMan) (maxL := 2) (ret := (some .boolean)) (by decide) rfl ?_
  intro p e s m args below meth c s₁ B hml hv
  obtain ⟨rfl, hsz, hP, hK⟩ := hv
  have hx := B.exec
  have hb := B.bytes
  have hr := B.returns
  have hts0 := atoms_spec (ws := Cond.code yX1_hasMan cX1_hasMan 2 (some .boolean) :: yALL) B.pre
  have hts : ∀ w ∈ yALL, w.before _ s = true := fun w hw => hts0 w (List.mem_cons_of_mem _ hw)
  have hown : s.vm.findClass RX1 = some m.cls := findClass_of_methodNamed B.named
  have hlocks := B.notSynchronized
  have hS : va_S (fun _ : Nat => False) s.heap s.heap [] := va_S.rf
  have hl := lv_entry ([.ref (ad 376), .int p0]) (n := 2) (Nat.le_of_ble_eq_true rfl)
  rw [lg_entry_eq]
  generalize (lg_sl ([.ref (ad 376), .int p0]) ++ List.replicate (2 - (lg_sl ([.ref (ad 376), .int p0])).length) Slot.unset).toArray = ls at hl ⊢
  have hl : lv_has ls 2 [(0, .ref (ad 376)), (1, .int p0)] := hl
  refine lv_iload_n hx hb dX1_hasMan_0 rfl (lv_at hl 1 rfl) ?_
  refine lv_if_lt (tgt := 16) hx hb dX1_hasMan_1 (by decide) (fun c9 => ?_) (fun c9 => ?_)
  · refine lv_iconst (v := 0) hx hb dX1_hasMan_16 (by decide) ?_
    exact W.zret (v := 0) (ty := .boolean) hx hb hr rfl (fun t ht hW => ⟨⟨0, (), rfl, Or.inl ⟨rfl, Or.inl c9⟩, trivial⟩, hS.F ht⟩) hS.2.2 dX1_hasMan_17
  · refine lv_iload_n hx hb dX1_hasMan_4 rfl (lv_at hl 1 rfl) ?_
    refine lv_aload_n hx hb dX1_hasMan_5 rfl (lv_at hl 0 rfl) ?_
    refine va_get (D := (dC, dI)) (ci := 1) (v := .int (h.1 376 0)) (C := RX1) (T := TX1) (N := 5) hx hb hts yu1 hown hK hP 376 (hObj (by decide) hT376) rfl 0 (by decide) (hts _ (yWat_in (i := 268) (by decide +kernel))) (fun _ h9 => h9) (hfi rfl) dX1_hasMan_6 ?_
    refine lv_icmp_ge (tgt := 16) hx hb dX1_hasMan_9 (by decide) (fun c8 => ?_) (fun c8 => ?_)
    · refine lv_iconst (v := 0) hx hb dX1_hasMan_16 (by decide) ?_
      exact W.zret (v := 0) (ty := .boolean) hx hb hr rfl (fun t ht hW => ⟨⟨0, (), rfl, Or.inl ⟨rfl, Or.inr c8⟩, trivial⟩, hS.F ht⟩) hS.2.2 dX1_hasMan_17
    · refine lv_iconst (v := 1) hx hb dX1_hasMan_12 (by decide) ?_
      refine lv_goto (tgt := 17) hx hb dX1_hasMan_13 (by decide) ?_
      exact W.zret (v := 1) (ty := .boolean) hx hb hr rfl (fun t ht hW => ⟨⟨1, (), rfl, Or.inr ⟨rfl, c9, c8⟩, trivial⟩, hS.F ht⟩) hS.2.2 dX1_hasMan_17
noncomputable def hG9 : List Cond := zAtS.filter goodWord
theorem hG9_in : ∀ w ∈ hG9, w ∈ lw_tbl := by unfold hG9; decide +kernel
theorem hG9_good : ∀ w ∈ hG9, goodWord w = true := fun w hw => (List.mem_filter.mp hw).2
noncomputable def hPreX (cI cZ cQ cG : ClassId) (dC : Nat → ClassId) (dI : Nat → Nat → Nat) (ad : Nat → Nat) (sz : Nat) (h : zH) (sa : Nat) (U : State) : Prop := hPre cI cZ cQ cG dC dI ad sz h U ∧ zX sa U
theorem hBlindX {cI cZ cQ cG : ClassId} {dC : Nat → ClassId} {dI : Nat → Nat → Nat} {ad : Nat → Nat} {h : zH} {av : List Value} {sz sa : Nat} : FrameBlind (va_Pc av (hPreX cI cZ cQ cG dC dI ad sz h sa)) := fun a U g mk q => by
  obtain ⟨q0, ⟨q1, qP, qK⟩, qR, qU, qN, qF⟩ := q
  exact ⟨q0, ⟨q1, qP, va_K.moved (u := U) (U := U.calling g mk a) (Vm.Alike.refl U.vm) qK⟩, vk_R.same rfl qR, vx_Zq.moved (u := U) (U := U.calling g mk a) (Vm.Alike.refl U.vm) qU, vx_Zq.moved (u := U) (U := U.calling g mk a) (Vm.Alike.refl U.vm) qN, zF.moved (u := U) (U := U.calling g mk a) (Vm.Alike.refl U.vm) qF⟩
noncomputable abbrev hMw : List Cond := Cond.code yX11_man cX11_man 3 (some .int) :: (yALL ++ hG9)
theorem hcase {x : Int32} (h0 : ¬ x < 0) (h6 : x ≤ 6) : ∃ k : Nat, k ≤ 6 ∧ x = nI k := by
  have a : 0 ≤ x.toInt := by
    have := Int32.not_lt.mp h0
    simpa using Int32.le_iff_toInt_le.mp this
  have b : x.toInt ≤ 6 := by simpa using Int32.le_iff_toInt_le.mp h6
  refine ⟨x.toInt.toNat, by omega, ?_⟩
  apply Int32.toInt_inj.mp
  rw [nI_toInt (by omega)]
  omega
theorem hin6 {x m : Int32} (h0 : ¬ x < 0) (h1 : ¬ m ≤ x) (hm : m.toInt ≤ 6) : vp_in x 6 := by
  have a : 0 ≤ x.toInt := by
    have := Int32.not_lt.mp h0
    simpa using Int32.le_iff_toInt_le.mp this
  have b : x.toInt < m.toInt := by
    have := Int32.not_le.mp h1
    exact Int32.lt_iff_toInt_lt.mp this
  intro q
  rcases q with q | q
  · exact h0 q
  · have : x.toNatClampNeg = x.toInt.toNat := rfl
    omega
set_option maxHeartbeats 4000000 in
set_option maxRecDepth 100000 in
theorem c_man (l : Launch) (hlt : l.stackTraces = false) (cI cZ cQ cG : ClassId) (dC : Nat → ClassId) (dI : Nat → Nat → Nat) (ad : Nat → Nat) (sz sa : Nat) (h : zH) (hm : (h.1 376 0).toInt ≤ 6) (p0 p1 : Int32) : vx_Met l yX11_man hMw ({ frames := 8, cells := 1, slots := 6, locals := 200 }) (va_Pc [.ref (ad 406), .int p0, .int p1] (hPreX cI cZ cQ cG dC dI ad sz h sa)) (va_Qi (fun (r : Int32) (_ : Unit) => True) (fun (_ : Unit) _ => True) (fun _ => False)) (vx_X (fun _ : Unit => True) (fun E _ _ => E = zE) (fun _ => False)) 1 6 (fun _ => False) := by
  refine vx_ofW (cc := cX11_man) (maxL := 3) (ret := (some .int)) (by decide) rfl ?_
  intro p e s m args below meth c s₁ B hml htab hv
  obtain ⟨rfl, ⟨hsz, hP, hK⟩, hR1, hU1, hN1, hF1⟩ := hv
  have hx := B.exec
  have hb := B.bytes
  have hr := B.returns
  have hts0 := atoms_spec (ws := hMw) B.pre
  have hts : ∀ w ∈ yALL, w.before _ s = true := fun w hw => hts0 w (List.mem_cons_of_mem _ (List.mem_append_left _ hw))
  have hat : ∀ w ∈ zAtS, w.before _ s = true := fun w hw => by
    cases h9 : goodWord w
    · exact hF1.use w (List.mem_filter.mpr ⟨hw, by rw [h9]; rfl⟩)
    · exact hts0 w (List.mem_cons_of_mem _ (List.mem_append_right _ (List.mem_filter.mpr ⟨hw, h9⟩)))
  have hown : s.vm.findClass RX11 = some m.cls := findClass_of_methodNamed B.named
  have hlocks := B.notSynchronized
  subst hsz
  have hS : va_S (fun _ : Nat => False) s.heap s.heap [] := va_S.rf
  have hl := lv_entry ([.ref (ad 406), .int p0, .int p1]) (n := 3) (Nat.le_of_ble_eq_true rfl)
  rw [lg_entry_eq]
  generalize (lg_sl ([.ref (ad 406), .int p0, .int p1]) ++ List.replicate (3 - (lg_sl ([.ref (ad 406), .int p0, .int p1])).length) Slot.unset).toArray = ls at hl ⊢
  have hl : lv_has ls 3 [(0, .ref (ad 406)), (1, .int p0), (2, .int p1)] := hl
  refine lv_aload_n hx hb dX11_man_0 rfl (lv_at hl 0 rfl) ?_
  refine va_get (D := (dC, dI)) (ci := 11) (v := .ref (ad 376)) (C := RX11) (T := TX11) (N := 20) hx hb hts yu11 hown hK hP 406 (hObj (by decide) hT406) rfl 4 (by decide) (hts _ (yWat_in (i := 418) (by decide +kernel))) (fun _ h9 => h9) (hfr (k := 376) rfl) dX11_man_1 ?_
  refine lv_iload_n hx hb dX11_man_4 rfl (lv_at hl 1 rfl) ?_
  refine va_calli (va_runV (l := l) (As := [.int p0]) (rest := []) ⟨hx, hb, hml, hown, hts⟩ (c_hasMan l cI cZ cQ cG dC dI ad s.heap.size h p0) (cwV 1 hts (zgood yALL_good (yWat_in (i := 667) (by decide +kernel)) [.methodLink RX11 190 yX1_hasMan, .instanceMethod yX1_hasMan, .selects RX1 yX1_hasMan yX1_hasMan, .initialized RX1] (by
      intro w hw
      simp only [List.mem_cons, List.not_mem_nil, or_false] at hw
      rcases hw with rfl | rfl | rfl | rfl
      · exact yWat_in (i := 664) (by decide +kernel)
      · exact yWat_in (i := 665) (by decide +kernel)
      · exact yWat_in (i := 666) (by decide +kernel)
      · exact yWat_in (i := 114) (by decide +kernel))) rfl rfl rfl (by decide +kernel) ⟨by decide, by decide⟩) ⟨hBlind, va_recv hK hP (ci := 1) (q := (RX1, TX1, 5)) (q0 := 376) rfl (hObj (by decide) hT376), fun U hU hW => ⟨rfl, by rw [hU], by rw [hU]; exact hP, va_K.moved hW.alike hK⟩⟩ rfl rfl hl.1 rfl (lv_room (Nat.le_of_ble_eq_true rfl)) dX11_man_5 ⟨Nat.le_of_ble_eq_true rfl, Nat.le_of_ble_eq_true rfl⟩) hS (fun _ _ h => h.elim) (fun _ h => h.elim) (fun r1 u9 t9 H1 locs ht9 hvm hr1 hB9 hz1 hk1 hS => ?_)
  have hP : va_P (dC, dI) vwCl (zW yTab cI cZ cQ cG ad 441 h) H1 := hP.kept (fun k q hq => hk1 q.1 (hP k q hq).lt (fun z => z))
  clear hB9 hz1 hk1 hvm ht9 u9
  have thr : W p l e (headSpec hMw ({ frames := 8, cells := 1, slots := 6, locals := 200 })).room s m _ below meth c H1 locs 0 0 (vx_MQ below (va_Qi (fun (r : Int32) (_ : Unit) => True) (fun (_ : Unit) _ => True) (fun _ => False)) (vx_X (fun _ : Unit => True) (fun E _ _ => E = zE) (fun _ => False)) _ s 1 6 (fun _ => False)) (F0 m 21 ls []) :=
    z_throwS (A := fun _ => False) hx hb hlt hown (hts _ (yWat_in (i := 1015) (by decide +kernel))) (hts _ (yWat_in (i := 129) (by decide +kernel))) hR1 hat hU1 hN1 hS (hl.1.trans hml.symm) dX11_man_21 dX11_man_24 dX11_man_25 dX11_man_27 dX11_man_30 (fun x h9 => (htab x h9).elim) (Nat.le_of_ble_eq_true rfl) (Nat.le_of_ble_eq_true rfl) (Nat.le_of_ble_eq_true rfl) (Nat.le_of_ble_eq_true rfl) hlocks (fun t ha hz hq => ⟨(), trivial, rfl, Nat.le_trans hS.1 hz, fun q h1 _ => (hq q (Nat.lt_of_lt_of_le h1 hS.1)).trans (hS.2.1 q h1 (fun z => z))⟩) hS.2.2 (Nat.le_refl _) (Nat.le_refl _)
  refine lv_if_eq (tgt := 21) hx hb dX11_man_8 (by decide) (fun _ => thr) (fun c9 => ?_)
  rcases hr1 with ⟨rfl, -⟩ | ⟨-, g1, g2⟩
  · exact absurd rfl c9
  refine lv_iload_n hx hb dX11_man_11 rfl (lv_at hl 2 rfl) ?_
  refine lv_if_lt (tgt := 21) hx hb dX11_man_12 (by decide) (fun _ => thr) (fun c8 => ?_)
  refine lv_iload_n hx hb dX11_man_15 rfl (lv_at hl 2 rfl) ?_
  refine lv_bipush (v := 6) hx hb dX11_man_16 (by decide) ?_
  refine lv_icmp_le (tgt := 31) hx hb dX11_man_18 (by decide) (fun c7 => ?_) (fun _ => thr)
  have hin := hin6 g1 g2 hm
  obtain ⟨k, hk, ek⟩ := hcase c8 c7
  refine lv_iload_n hx hb dX11_man_31 rfl (lv_at hl 2 rfl) ?_
  refine lv_topi (fun y9 e9 => ?_)
  obtain rfl : y9 = nI k := e9.trans ek
  match k, hk with
  | 0, _ =>
    refine lv_tableIn (tgt := 72) (off := 40) hx hb dX11_man_32 (by decide) (by decide) rfl (by decide) ?_
    refine lv_aload_n hx hb dX11_man_72 rfl (lv_at hl 0 rfl) ?_
    refine va_get (D := (dC, dI)) (ci := 11) (v := .ref (ad 376)) (C := RX11) (T := TX11) (N := 20) hx hb hts yu11 hown hK hP 406 (hObj (by decide) hT406) rfl 4 (by decide) (hts (.fieldLink RX11 42 "DreamGuard" "fort" "LDreamGuard$Fort;") (yWat_in (i := 418) (by decide +kernel))) (fun _ h9 => h9) (hfr (k := 376) rfl) dX11_man_73 ?_
    refine va_get (D := (dC, dI)) (ci := 1) (v := .ref (ad 375)) (C := RX1) (T := TX1) (N := 5) hx hb hts yu1 hown hK hP 376 (hObj (by decide) hT376) rfl 3 (by decide) (hts (.fieldLink RX11 201 "DreamGuard$Fort" "needs" "[I") (yWat_in (i := 287) (by decide +kernel))) (fun _ h9 => h9) (hfr (k := 375) rfl) dX11_man_76 ?_
    refine lv_iload_n hx hb dX11_man_79 rfl (lv_at hl 1 rfl) ?_
    refine va_iald hx hb hK hP 375 0 (hRow (by decide) hT375) rfl hin dX11_man_80 ?_
    exact vx_ret (W.widen (k := 1) (n := 6) (by decide) (by decide) (W.iret hx hb hr (fun t ht hW => ⟨⟨_, (), rfl, trivial, trivial⟩, hS.F ht⟩) hS.2.2 dX11_man_81))
  | 1, _ =>
    refine lv_tableIn (tgt := 82) (off := 50) hx hb dX11_man_32 (by decide) (by decide) rfl (by decide) ?_
    refine lv_aload_n hx hb dX11_man_82 rfl (lv_at hl 0 rfl) ?_
    refine va_get (D := (dC, dI)) (ci := 11) (v := .ref (ad 7)) (C := RX11) (T := TX11) (N := 20) hx hb hts yu11 hown hK hP 406 (hObj (by decide) hT406) rfl 5 (by decide) (hts (.fieldLink RX11 49 "DreamGuard" "now" "LDreamGuard$State;") (yWat_in (i := 419) (by decide +kernel))) (fun _ h9 => h9) (hfr (k := 7) rfl) dX11_man_83 ?_
    refine va_get (D := (dC, dI)) (ci := 8) (v := .ref (ad 2)) (C := RX8) (T := TX8) (N := 10) hx hb hts yu8 hown hK hP 7 (hObj (by decide) hT7) rfl 2 (by decide) (hts (.fieldLink RX11 204 "DreamGuard$State" "dreams" "[I") (yWat_in (i := 234) (by decide +kernel))) (fun _ h9 => h9) (hfr (k := 2) rfl) dX11_man_86 ?_
    refine lv_iload_n hx hb dX11_man_89 rfl (lv_at hl 1 rfl) ?_
    refine va_iald hx hb hK hP 2 0 (hRow (by decide) hT2) rfl hin dX11_man_90 ?_
    exact vx_ret (W.widen (k := 1) (n := 6) (by decide) (by decide) (W.iret hx hb hr (fun t ht hW => ⟨⟨_, (), rfl, trivial, trivial⟩, hS.F ht⟩) hS.2.2 dX11_man_91))
  | 2, _ =>
    refine lv_tableIn (tgt := 92) (off := 60) hx hb dX11_man_32 (by decide) (by decide) rfl (by decide) ?_
    refine lv_aload_n hx hb dX11_man_92 rfl (lv_at hl 0 rfl) ?_
    refine va_get (D := (dC, dI)) (ci := 11) (v := .ref (ad 7)) (C := RX11) (T := TX11) (N := 20) hx hb hts yu11 hown hK hP 406 (hObj (by decide) hT406) rfl 5 (by decide) (hts (.fieldLink RX11 49 "DreamGuard" "now" "LDreamGuard$State;") (yWat_in (i := 419) (by decide +kernel))) (fun _ h9 => h9) (hfr (k := 7) rfl) dX11_man_93 ?_
    refine va_get (D := (dC, dI)) (ci := 8) (v := .ref (ad 1)) (C := RX8) (T := TX8) (N := 10) hx hb hts yu8 hown hK hP 7 (hObj (by decide) hT7) rfl 1 (by decide) (hts (.fieldLink RX11 207 "DreamGuard$State" "eyes" "[I") (yWat_in (i := 229) (by decide +kernel))) (fun _ h9 => h9) (hfr (k := 1) rfl) dX11_man_96 ?_
    refine lv_iload_n hx hb dX11_man_99 rfl (lv_at hl 1 rfl) ?_
    refine va_iald hx hb hK hP 1 0 (hRow (by decide) hT1) rfl hin dX11_man_100 ?_
    exact vx_ret (W.widen (k := 1) (n := 6) (by decide) (by decide) (W.iret hx hb hr (fun t ht hW => ⟨⟨_, (), rfl, trivial, trivial⟩, hS.F ht⟩) hS.2.2 dX11_man_101))
  | 3, _ =>
    refine lv_tableIn (tgt := 102) (off := 70) hx hb dX11_man_32 (by decide) (by decide) rfl (by decide) ?_
    refine lv_aload_n hx hb dX11_man_102 rfl (lv_at hl 0 rfl) ?_
    refine va_get (D := (dC, dI)) (ci := 11) (v := .ref (ad 7)) (C := RX11) (T := TX11) (N := 20) hx hb hts yu11 hown hK hP 406 (hObj (by decide) hT406) rfl 5 (by decide) (hts (.fieldLink RX11 49 "DreamGuard" "now" "LDreamGuard$State;") (yWat_in (i := 419) (by decide +kernel))) (fun _ h9 => h9) (hfr (k := 7) rfl) dX11_man_103 ?_
    refine va_get (D := (dC, dI)) (ci := 8) (v := .ref (ad 0)) (C := RX8) (T := TX8) (N := 10) hx hb hts yu8 hown hK hP 7 (hObj (by decide) hT7) rfl 0 (by decide) (hts (.fieldLink RX11 210 "DreamGuard$State" "bed" "[I") (yWat_in (i := 224) (by decide +kernel))) (fun _ h9 => h9) (hfr (k := 0) rfl) dX11_man_106 ?_
    refine lv_iload_n hx hb dX11_man_109 rfl (lv_at hl 1 rfl) ?_
    refine va_iald hx hb hK hP 0 0 (hRow (by decide) hT0) rfl hin dX11_man_110 ?_
    exact vx_ret (W.widen (k := 1) (n := 6) (by decide) (by decide) (W.iret hx hb hr (fun t ht hW => ⟨⟨_, (), rfl, trivial, trivial⟩, hS.F ht⟩) hS.2.2 dX11_man_111))
  | 4, _ =>
    refine lv_tableIn (tgt := 112) (off := 80) hx hb dX11_man_32 (by decide) (by decide) rfl (by decide) ?_
    refine lv_aload_n hx hb dX11_man_112 rfl (lv_at hl 0 rfl) ?_
    refine va_get (D := (dC, dI)) (ci := 11) (v := .ref (ad 7)) (C := RX11) (T := TX11) (N := 20) hx hb hts yu11 hown hK hP 406 (hObj (by decide) hT406) rfl 5 (by decide) (hts (.fieldLink RX11 49 "DreamGuard" "now" "LDreamGuard$State;") (yWat_in (i := 419) (by decide +kernel))) (fun _ h9 => h9) (hfr (k := 7) rfl) dX11_man_113 ?_
    refine va_get (D := (dC, dI)) (ci := 8) (v := .ref (ad 3)) (C := RX8) (T := TX8) (N := 10) hx hb hts yu8 hown hK hP 7 (hObj (by decide) hT7) rfl 3 (by decide) (hts (.fieldLink RX11 213 "DreamGuard$State" "tired" "[I") (yWat_in (i := 237) (by decide +kernel))) (fun _ h9 => h9) (hfr (k := 3) rfl) dX11_man_116 ?_
    refine lv_iload_n hx hb dX11_man_119 rfl (lv_at hl 1 rfl) ?_
    refine va_iald hx hb hK hP 3 0 (hRow (by decide) hT3) rfl hin dX11_man_120 ?_
    exact vx_ret (W.widen (k := 1) (n := 6) (by decide) (by decide) (W.iret hx hb hr (fun t ht hW => ⟨⟨_, (), rfl, trivial, trivial⟩, hS.F ht⟩) hS.2.2 dX11_man_121))
  | 5, _ =>
    refine lv_tableIn (tgt := 122) (off := 90) hx hb dX11_man_32 (by decide) (by decide) rfl (by decide) ?_
    refine lv_aload_n hx hb dX11_man_122 rfl (lv_at hl 0 rfl) ?_
    refine va_get (D := (dC, dI)) (ci := 11) (v := .ref (ad 7)) (C := RX11) (T := TX11) (N := 20) hx hb hts yu11 hown hK hP 406 (hObj (by decide) hT406) rfl 5 (by decide) (hts (.fieldLink RX11 49 "DreamGuard" "now" "LDreamGuard$State;") (yWat_in (i := 419) (by decide +kernel))) (fun _ h9 => h9) (hfr (k := 7) rfl) dX11_man_123 ?_
    refine va_get (D := (dC, dI)) (ci := 8) (v := .ref (ad 4)) (C := RX8) (T := TX8) (N := 10) hx hb hts yu8 hown hK hP 7 (hObj (by decide) hT7) rfl 4 (by decide) (hts (.fieldLink RX11 216 "DreamGuard$State" "dreamt" "[I") (yWat_in (i := 240) (by decide +kernel))) (fun _ h9 => h9) (hfr (k := 4) rfl) dX11_man_126 ?_
    refine lv_iload_n hx hb dX11_man_129 rfl (lv_at hl 1 rfl) ?_
    refine va_iald hx hb hK hP 4 0 (hRow (by decide) hT4) rfl hin dX11_man_130 ?_
    exact vx_ret (W.widen (k := 1) (n := 6) (by decide) (by decide) (W.iret hx hb hr (fun t ht hW => ⟨⟨_, (), rfl, trivial, trivial⟩, hS.F ht⟩) hS.2.2 dX11_man_131))
  | 6, _ =>
    refine lv_tableOut (tgt := 132) hx hb dX11_man_32 (by decide) (by decide) ?_
    refine lv_aload_n hx hb dX11_man_132 rfl (lv_at hl 0 rfl) ?_
    refine va_get (D := (dC, dI)) (ci := 11) (v := .ref (ad 7)) (C := RX11) (T := TX11) (N := 20) hx hb hts yu11 hown hK hP 406 (hObj (by decide) hT406) rfl 5 (by decide) (hts (.fieldLink RX11 49 "DreamGuard" "now" "LDreamGuard$State;") (yWat_in (i := 419) (by decide +kernel))) (fun _ h9 => h9) (hfr (k := 7) rfl) dX11_man_133 ?_
    refine va_get (D := (dC, dI)) (ci := 8) (v := .ref (ad 5)) (C := RX8) (T := TX8) (N := 10) hx hb hts yu8 hown hK hP 7 (hObj (by decide) hT7) rfl 5 (by decide) (hts (.fieldLink RX11 219 "DreamGuard$State" "place" "[I") (yWat_in (i := 244) (by decide +kernel))) (fun _ h9 => h9) (hfr (k := 5) rfl) dX11_man_136 ?_
    refine lv_iload_n hx hb dX11_man_139 rfl (lv_at hl 1 rfl) ?_
    refine va_iald hx hb hK hP 5 0 (hRow (by decide) hT5) rfl hin dX11_man_140 ?_
    exact vx_ret (W.widen (k := 1) (n := 6) (by decide) (by decide) (W.iret hx hb hr (fun t ht hW => ⟨⟨_, (), rfl, trivial, trivial⟩, hS.F ht⟩) hS.2.2 dX11_man_141))
  | k + 7, hk => omega
