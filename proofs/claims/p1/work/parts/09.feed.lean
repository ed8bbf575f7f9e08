def s_X10_signsIn (p0 : Int32) : Int32 := (if (((p0.toUInt32 >>> ((24 : Int32).toUInt32 &&& Int32.toUInt32 31)).toInt32) &&& 255) = 0 then (if (((p0.toUInt32 >>> ((16 : Int32).toUInt32 &&& Int32.toUInt32 31)).toInt32) &&& 255) = 0 then (if (((p0.toUInt32 >>> ((8 : Int32).toUInt32 &&& Int32.toUInt32 31)).toInt32) &&& 255) = 0 then (if (((p0.toUInt32 >>> ((0 : Int32).toUInt32 &&& Int32.toUInt32 31)).toInt32) &&& 255) = 0 then 0 else 1) else (if (((p0.toUInt32 >>> ((0 : Int32).toUInt32 &&& Int32.toUInt32 31)).toInt32) &&& 255) = 0 then 1 else 2)) else (if (((p0.toUInt32 >>> ((8 : Int32).toUInt32 &&& Int32.toUInt32 31)).toInt32) &&& 255) = 0 then (if (((p0.toUInt32 >>> ((0 : Int32).toUInt32 &&& Int32.toUInt32 31)).toInt32) &&& 255) = 0 then 1 else 2) else (if (((p0.toUInt32 >>> ((0 : Int32).toUInt32 &&& Int32.toUInt32 31)).toInt32) &&& 255) = 0 then 2 else 3))) else (if (((p0.toUInt32 >>> ((16 : Int32).toUInt32 &&& Int32.toUInt32 31)).toInt32) &&& 255) = 0 then (if (((p0.toUInt32 >>> ((8 : Int32).toUInt32 &&& Int32.toUInt32 31)).toInt32) &&& 255) = 0 then (if (((p0.toUInt32 >>> ((0 : Int32).toUInt32 &&& Int32.toUInt32 31)).toInt32) &&& 255) = 0 then 1 else 2) else (if (((p0.toUInt32 >>> ((0 : Int32).toUInt32 &&& Int32.toUInt32 31)).toInt32) &&& 255) = 0 then 2 else 3)) else (if (((p0.toUInt32 >>> ((8 : Int32).toUInt32 &&& Int32.toUInt32 31)).toInt32) &&& 255) = 0 then (if (((p0.toUInt32 >>> ((0 : Int32).toUInt32 &&& Int32.toUInt32 31)).toInt32) &&& 255) = 0 then 2 else 3) else (if (((p0.toUInt32 >>> ((0 : Int32).toUInt32 &&& Int32.toUInt32 31)).toInt32) &&& 255) = 0 then 3 else 4))))
set_option maxHeartbeats 4000000 in
set_option maxRecDepth 100000 in
theorem c_X10_signsIn (l : Launch) (dC : Nat → ClassId) (dI : Nat → Nat → Nat) (cI cZ : ClassId) (sz : Nat) (p0 : Int32) : Met l yX10_signsIn wsX10_signsIn ({ frames := 0, cells := 0, slots := 0, locals := 0 }) (va_Pc [.int p0] (zPre dC dI cI cZ sz [])) (va_Qi (fun (r : Int32) (_ : Unit) => r = s_X10_signsIn p0) (fun (_ : Unit) _ => True) (fun _ => False)) 0 0 (fun _ => False) := by
  refine Met.ofW (cc := cX10_signsIn) (maxL := 3) (ret := (some .int)) (by decide) rfl ?_
  intro p e s m args below meth c s₁ B hml hv
  obtain ⟨rfl, hsz, hP, hK, hD0, hG⟩ := hv
  have hx := B.exec
  have hb := B.bytes
  have hr := B.returns
  have hts := atoms_spec (ws := wsX10_signsIn) B.pre
  have hown : s.vm.findClass RX10 = some m.cls := findClass_of_methodNamed B.named
  have hlocks := B.notSynchronized
  subst hsz
  have hS : va_S (fun _ : Nat => False) s.heap s.heap [] := va_S.rf
  have hP : va_P (dC, dI) vwCl [] s.heap := hP
  have hl := lv_entry ([.int p0]) (n := 3) (Nat.le_of_ble_eq_true rfl)
  rw [lg_entry_eq]
  generalize (lg_sl ([.int p0]) ++ List.replicate (3 - (lg_sl ([.int p0])).length) Slot.unset).toArray = ls at hl ⊢
  have hl : lv_has ls 3 [(0, .int p0)] := hl
  refine lv_iconst (v := 0) hx hb dX10_signsIn_0 (by decide) ?_
  refine lv_istore_n (lv' := [(1, .int 0), (0, .int p0)]) hx hb dX10_signsIn_1 rfl hl (by decide) rfl (fun ls hl => ?_)
  refine lv_bipush (v := 24) hx hb dX10_signsIn_2 (by decide) ?_
  refine lv_istore_n (lv' := [(2, .int 24), (1, .int 0), (0, .int p0)]) hx hb dX10_signsIn_4 rfl hl (by decide) rfl (fun ls hl => ?_)
  refine lv_iload_n hx hb dX10_signsIn_5 rfl (lv_at hl 0 rfl) ?_
  refine lv_if_lt (tgt := 28) hx hb dX10_signsIn_6 (by decide) (fun c9 => absurd c9 (by decide)) (fun _ => ?_)
  refine lv_iload_n hx hb dX10_signsIn_9 rfl (lv_at hl 2 rfl) ?_
  refine lv_iload_n hx hb dX10_signsIn_10 rfl (lv_at hl 0 rfl) ?_
  refine lv_iushr (v := (p0.toUInt32 >>> ((24 : Int32).toUInt32 &&& Int32.toUInt32 31)).toInt32) hx hb dX10_signsIn_11 rfl ?_
  refine lv_sipush (v := 255) hx hb dX10_signsIn_12 (by decide) ?_
  refine lv_iand hx hb dX10_signsIn_15 ?_
  refine lv_if_eq (tgt := 22) hx hb dX10_signsIn_16 (by decide) (fun c1 => ?_) (fun c1 => ?_)
  · skip
    refine lv_iinc (v := 16) (lv' := [(2, .int 16), (1, .int 0), (0, .int p0)]) hx hb dX10_signsIn_22 hl (k := 0) rfl (by decide) (by decide) rfl (fun ls hl => ?_)
    refine lv_goto (tgt := 5) hx hb dX10_signsIn_25 (by decide) ?_
    refine lv_iload_n hx hb dX10_signsIn_5 rfl (lv_at hl 0 rfl) ?_
    refine lv_if_lt (tgt := 28) hx hb dX10_signsIn_6 (by decide) (fun c9 => absurd c9 (by decide)) (fun _ => ?_)
    refine lv_iload_n hx hb dX10_signsIn_9 rfl (lv_at hl 2 rfl) ?_
    refine lv_iload_n hx hb dX10_signsIn_10 rfl (lv_at hl 0 rfl) ?_
    refine lv_iushr (v := (p0.toUInt32 >>> ((16 : Int32).toUInt32 &&& Int32.toUInt32 31)).toInt32) hx hb dX10_signsIn_11 rfl ?_
    refine lv_sipush (v := 255) hx hb dX10_signsIn_12 (by decide) ?_
    refine lv_iand hx hb dX10_signsIn_15 ?_
    refine lv_if_eq (tgt := 22) hx hb dX10_signsIn_16 (by decide) (fun c2 => ?_) (fun c2 => ?_)
    · skip
      refine lv_iinc (v := 8) (lv' := [(2, .int 8), (1, .int 0), (0, .int p0)]) hx hb dX10_signsIn_22 hl (k := 0) rfl (by decide) (by decide) rfl (fun ls hl => ?_)
      refine lv_goto (tgt := 5) hx hb dX10_signsIn_25 (by decide) ?_
      refine lv_iload_n hx hb dX10_signsIn_5 rfl (lv_at hl 0 rfl) ?_
      refine lv_if_lt (tgt := 28) hx hb dX10_signsIn_6 (by decide) (fun c9 => absurd c9 (by decide)) (fun _ => ?_)
      refine lv_iload_n hx hb dX10_signsIn_9 rfl (lv_at hl 2 rfl) ?_
      refine lv_iload_n hx hb dX10_signsIn_10 rfl (lv_at hl 0 rfl) ?_
      refine lv_iushr (v := (p0.toUInt32 >>> ((8 : Int32).toUInt32 &&& Int32.toUInt32 31)).toInt32) hx hb dX10_signsIn_11 rfl ?_
      refine lv_sipush (v := 255) hx hb dX10_signsIn_12 (by decide) ?_
      refine lv_iand hx hb dX10_signsIn_15 ?_
      refine lv_if_eq (tgt := 22) hx hb dX10_signsIn_16 (by decide) (fun c3 => ?_) (fun c3 => ?_)
      · skip
        refine lv_iinc (v := 0) (lv' := [(2, .int 0), (1, .int 0), (0, .int p0)]) hx hb dX10_signsIn_22 hl (k := 0) rfl (by decide) (by decide) rfl (fun ls hl => ?_)
        refine lv_goto (tgt := 5) hx hb dX10_signsIn_25 (by decide) ?_
        refine lv_iload_n hx hb dX10_signsIn_5 rfl (lv_at hl 0 rfl) ?_
        refine lv_if_lt (tgt := 28) hx hb dX10_signsIn_6 (by decide) (fun c9 => absurd c9 (by decide)) (fun _ => ?_)
        refine lv_iload_n hx hb dX10_signsIn_9 rfl (lv_at hl 2 rfl) ?_
        refine lv_iload_n hx hb dX10_signsIn_10 rfl (lv_at hl 0 rfl) ?_
        refine lv_iushr (v := (p0.toUInt32 >>> ((0 : Int32).toUInt32 &&& Int32.toUInt32 31)).toInt32) hx hb dX10_signsIn_11 rfl ?_
        refine lv_sipush (v := 255) hx hb dX10_signsIn_12 (by decide) ?_
        refine lv_iand hx hb dX10_signsIn_15 ?_
        refine lv_if_eq (tgt := 22) hx hb dX10_signsIn_16 (by decide) (fun c4 => ?_) (fun c4 => ?_)
        · skip
          refine lv_iinc (v := (-8)) (lv' := [(2, .int (-8)), (1, .int 0), (0, .int p0)]) hx hb dX10_signsIn_22 hl (k := 0) rfl (by decide) (by decide) rfl (fun ls hl => ?_)
          refine lv_goto (tgt := 5) hx hb dX10_signsIn_25 (by decide) ?_
          refine lv_iload_n hx hb dX10_signsIn_5 rfl (lv_at hl 0 rfl) ?_
          refine lv_if_lt (tgt := 28) hx hb dX10_signsIn_6 (by decide) (fun _ => ?_) (fun c9 => absurd (by decide) c9)
          refine lv_iload_n hx hb dX10_signsIn_28 rfl (lv_at hl 1 rfl) ?_
          exact W.iret (v := 0) hx hb hr (fun t ht hW => ⟨⟨0, (), rfl, (by unfold s_X10_signsIn; rw [if_pos c1, if_pos c2, if_pos c3, if_pos c4]), trivial⟩, hS.F ht⟩) hS.2.2 dX10_signsIn_29
        · skip
          refine lv_iinc (v := 1) (lv' := [(1, .int 1), (2, .int 0), (0, .int p0)]) hx hb dX10_signsIn_19 hl (k := 1) rfl (by decide) (by decide) rfl (fun ls hl => ?_)
          refine lv_iinc (v := (-8)) (lv' := [(2, .int (-8)), (1, .int 1), (0, .int p0)]) hx hb dX10_signsIn_22 hl (k := 1) rfl (by decide) (by decide) rfl (fun ls hl => ?_)
          refine lv_goto (tgt := 5) hx hb dX10_signsIn_25 (by decide) ?_
          refine lv_iload_n hx hb dX10_signsIn_5 rfl (lv_at hl 0 rfl) ?_
          refine lv_if_lt (tgt := 28) hx hb dX10_signsIn_6 (by decide) (fun _ => ?_) (fun c9 => absurd (by decide) c9)
          refine lv_iload_n hx hb dX10_signsIn_28 rfl (lv_at hl 1 rfl) ?_
          exact W.iret (v := 1) hx hb hr (fun t ht hW => ⟨⟨1, (), rfl, (by unfold s_X10_signsIn; rw [if_pos c1, if_pos c2, if_pos c3, if_neg c4]), trivial⟩, hS.F ht⟩) hS.2.2 dX10_signsIn_29
      · skip
        refine lv_iinc (v := 1) (lv' := [(1, .int 1), (2, .int 8), (0, .int p0)]) hx hb dX10_signsIn_19 hl (k := 1) rfl (by decide) (by decide) rfl (fun ls hl => ?_)
        refine lv_iinc (v := 0) (lv' := [(2, .int 0), (1, .int 1), (0, .int p0)]) hx hb dX10_signsIn_22 hl (k := 1) rfl (by decide) (by decide) rfl (fun ls hl => ?_)
        refine lv_goto (tgt := 5) hx hb dX10_signsIn_25 (by decide) ?_
        refine lv_iload_n hx hb dX10_signsIn_5 rfl (lv_at hl 0 rfl) ?_
        refine lv_if_lt (tgt := 28) hx hb dX10_signsIn_6 (by decide) (fun c9 => absurd c9 (by decide)) (fun _ => ?_)
        refine lv_iload_n hx hb dX10_signsIn_9 rfl (lv_at hl 2 rfl) ?_
        refine lv_iload_n hx hb dX10_signsIn_10 rfl (lv_at hl 0 rfl) ?_
        refine lv_iushr (v := (p0.toUInt32 >>> ((0 : Int32).toUInt32 &&& Int32.toUInt32 31)).toInt32) hx hb dX10_signsIn_11 rfl ?_
        refine lv_sipush (v := 255) hx hb dX10_signsIn_12 (by decide) ?_
        refine lv_iand hx hb dX10_signsIn_15 ?_
        refine lv_if_eq (tgt := 22) hx hb dX10_signsIn_16 (by decide) (fun c5 => ?_) (fun c5 => ?_)
        · skip
          refine lv_iinc (v := (-8)) (lv' := [(2, .int (-8)), (1, .int 1), (0, .int p0)]) hx hb dX10_signsIn_22 hl (k := 0) rfl (by decide) (by decide) rfl (fun ls hl => ?_)
          refine lv_goto (tgt := 5) hx hb dX10_signsIn_25 (by decide) ?_
          refine lv_iload_n hx hb dX10_signsIn_5 rfl (lv_at hl 0 rfl) ?_
          refine lv_if_lt (tgt := 28) hx hb dX10_signsIn_6 (by decide) (fun _ => ?_) (fun c9 => absurd (by decide) c9)
          refine lv_iload_n hx hb dX10_signsIn_28 rfl (lv_at hl 1 rfl) ?_
          exact W.iret (v := 1) hx hb hr (fun t ht hW => ⟨⟨1, (), rfl, (by unfold s_X10_signsIn; rw [if_pos c1, if_pos c2, if_neg c3, if_pos c5]), trivial⟩, hS.F ht⟩) hS.2.2 dX10_signsIn_29
        · skip
          refine lv_iinc (v := 2) (lv' := [(1, .int 2), (2, .int 0), (0, .int p0)]) hx hb dX10_signsIn_19 hl (k := 1) rfl (by decide) (by decide) rfl (fun ls hl => ?_)
          refine lv_iinc (v := (-8)) (lv' := [(2, .int (-8)), (1, .int 2), (0, .int p0)]) hx hb dX10_signsIn_22 hl (k := 1) rfl (by decide) (by decide) rfl (fun ls hl => ?_)
          refine lv_goto (tgt := 5) hx hb dX10_signsIn_25 (by decide) ?_
          refine lv_iload_n hx hb dX10_signsIn_5 rfl (lv_at hl 0 rfl) ?_
          refine lv_if_lt (tgt := 28) hx hb dX10_signsIn_6 (by decide) (fun _ => ?_) (fun c9 => absurd (by decide) c9)
          refine lv_iload_n hx hb dX10_signsIn_28 rfl (lv_at hl 1 rfl) ?_
          exact W.iret (v := 2) hx hb hr (fun t ht hW => ⟨⟨2, (), rfl, (by unfold s_X10_signsIn; rw [if_pos c1, if_pos c2, if_neg c3, if_neg c5]), trivial⟩, hS.F ht⟩) hS.2.2 dX10_signsIn_29
    · skip
      refine lv_iinc (v := 1) (lv' := [(1, .int 1), (2, .int 16), (0, .int p0)]) hx hb dX10_signsIn_19 hl (k := 1) rfl (by decide) (by decide) rfl (fun ls hl => ?_)
      refine lv_iinc (v := 8) (lv' := [(2, .int 8), (1, .int 1), (0, .int p0)]) hx hb dX10_signsIn_22 hl (k := 1) rfl (by decide) (by decide) rfl (fun ls hl => ?_)
      refine lv_goto (tgt := 5) hx hb dX10_signsIn_25 (by decide) ?_
      refine lv_iload_n hx hb dX10_signsIn_5 rfl (lv_at hl 0 rfl) ?_
      refine lv_if_lt (tgt := 28) hx hb dX10_signsIn_6 (by decide) (fun c9 => absurd c9 (by decide)) (fun _ => ?_)
      refine lv_iload_n hx hb dX10_signsIn_9 rfl (lv_at hl 2 rfl) ?_
      refine lv_iload_n hx hb dX10_signsIn_10 rfl (lv_at hl 0 rfl) ?_
      refine lv_iushr (v := (p0.toUInt32 >>> ((8 : Int32).toUInt32 &&& Int32.toUInt32 31)).toInt32) hx hb dX10_signsIn_11 rfl ?_
      refine lv_sipush (v := 255) hx hb dX10_signsIn_12 (by decide) ?_
      refine lv_iand hx hb dX10_signsIn_15 ?_
      refine lv_if_eq (tgt := 22) hx hb dX10_signsIn_16 (by decide) (fun c6 => ?_) (fun c6 => ?_)
      · skip
        refine lv_iinc (v := 0) (lv' := [(2, .int 0), (1, .int 1), (0, .int p0)]) hx hb dX10_signsIn_22 hl (k := 0) rfl (by decide) (by decide) rfl (fun ls hl => ?_)
        refine lv_goto (tgt := 5) hx hb dX10_signsIn_25 (by decide) ?_
        refine lv_iload_n hx hb dX10_signsIn_5 rfl (lv_at hl 0 rfl) ?_
        refine lv_if_lt (tgt := 28) hx hb dX10_signsIn_6 (by decide) (fun c9 => absurd c9 (by decide)) (fun _ => ?_)
        refine lv_iload_n hx hb dX10_signsIn_9 rfl (lv_at hl 2 rfl) ?_
        refine lv_iload_n hx hb dX10_signsIn_10 rfl (lv_at hl 0 rfl) ?_
        refine lv_iushr (v := (p0.toUInt32 >>> ((0 : Int32).toUInt32 &&& Int32.toUInt32 31)).toInt32) hx hb dX10_signsIn_11 rfl ?_
        refine lv_sipush (v := 255) hx hb dX10_signsIn_12 (by decide) ?_
        refine lv_iand hx hb dX10_signsIn_15 ?_
        refine lv_if_eq (tgt := 22) hx hb dX10_signsIn_16 (by decide) (fun c7 => ?_) (fun c7 => ?_)
        · skip
          refine lv_iinc (v := (-8)) (lv' := [(2, .int (-8)), (1, .int 1), (0, .int p0)]) hx hb dX10_signsIn_22 hl (k := 0) rfl (by decide) (by decide) rfl (fun ls hl => ?_)
          refine lv_goto (tgt := 5) hx hb dX10_signsIn_25 (by decide) ?_
          refine lv_iload_n hx hb dX10_signsIn_5 rfl (lv_at hl 0 rfl) ?_
          refine lv_if_lt (tgt := 28) hx hb dX10_signsIn_6 (by decide) (fun _ => ?_) (fun c9 => absurd (by decide) c9)
          refine lv_iload_n hx hb dX10_signsIn_28 rfl (lv_at hl 1 rfl) ?_
          exact W.iret (v := 1) hx hb hr (fun t ht hW => ⟨⟨1, (), rfl, (by unfold s_X10_signsIn; rw [if_pos c1, if_neg c2, if_pos c6, if_pos c7]), trivial⟩, hS.F ht⟩) hS.2.2 dX10_signsIn_29
        · skip
          refine lv_iinc (v := 2) (lv' := [(1, .int 2), (2, .int 0), (0, .int p0)]) hx hb dX10_signsIn_19 hl (k := 1) rfl (by decide) (by decide) rfl (fun ls hl => ?_)
          refine lv_iinc (v := (-8)) (lv' := [(2, .int (-8)), (1, .int 2), (0, .int p0)]) hx hb dX10_signsIn_22 hl (k := 1) rfl (by decide) (by decide) rfl (fun ls hl => ?_)
          refine lv_goto (tgt := 5) hx hb dX10_signsIn_25 (by decide) ?_
          refine lv_iload_n hx hb dX10_signsIn_5 rfl (lv_at hl 0 rfl) ?_
          refine lv_if_lt (tgt := 28) hx hb dX10_signsIn_6 (by decide) (fun _ => ?_) (fun c9 => absurd (by decide) c9)
          refine lv_iload_n hx hb dX10_signsIn_28 rfl (lv_at hl 1 rfl) ?_
          exact W.iret (v := 2) hx hb hr (fun t ht hW => ⟨⟨2, (), rfl, (by unfold s_X10_signsIn; rw [if_pos c1, if_neg c2, if_pos c6, if_neg c7]), trivial⟩, hS.F ht⟩) hS.2.2 dX10_signsIn_29
      · skip
        refine lv_iinc (v := 2) (lv' := [(1, .int 2), (2, .int 8), (0, .int p0)]) hx hb dX10_signsIn_19 hl (k := 1) rfl (by decide) (by decide) rfl (fun ls hl => ?_)
        refine lv_iinc (v := 0) (lv' := [(2, .int 0), (1, .int 2), (0, .int p0)]) hx hb dX10_signsIn_22 hl (k := 1) rfl (by decide) (by decide) rfl (fun ls hl => ?_)
        refine lv_goto (tgt := 5) hx hb dX10_signsIn_25 (by decide) ?_
        refine lv_iload_n hx hb dX10_signsIn_5 rfl (lv_at hl 0 rfl) ?_
        refine lv_if_lt (tgt := 28) hx hb dX10_signsIn_6 (by decide) (fun c9 => absurd c9 (by decide)) (fun _ => ?_)
        refine lv_iload_n hx hb dX10_signsIn_9 rfl (lv_at hl 2 rfl) ?_
        refine lv_iload_n hx hb dX10_signsIn_10 rfl (lv_at hl 0 rfl) ?_
        refine lv_iushr (v := (p0.toUInt32 >>> ((0 : Int32).toUInt32 &&& Int32.toUInt32 31)).toInt32) hx hb dX10_signsIn_11 rfl ?_
        refine lv_sipush (v := 255) hx hb dX10_signsIn_12 (by decide) ?_
        refine lv_iand hx hb dX10_signsIn_15 ?_
        refine lv_if_eq (tgt := 22) hx hb dX10_signsIn_16 (by decide) (fun c8 => ?_) (fun c8 => ?_)
        · skip
          refine lv_iinc (v := (-8)) (lv' := [(2, .int (-8)), (1, .int 2), (0, .int p0)]) hx hb dX10_signsIn_22 hl (k := 0) rfl (by decide) (by decide) rfl (fun ls hl => ?_)
          refine lv_goto (tgt := 5) hx hb dX10_signsIn_25 (by decide) ?_
          refine lv_iload_n hx hb dX10_signsIn_5 rfl (lv_at hl 0 rfl) ?_
          refine lv_if_lt (tgt := 28) hx hb dX10_signsIn_6 (by decide) (fun _ => ?_) (fun c9 => absurd (by decide) c9)
          refine lv_iload_n hx hb dX10_signsIn_28 rfl (lv_at hl 1 rfl) ?_
          exact W.iret (v := 2) hx hb hr (fun t ht hW => ⟨⟨2, (), rfl, (by unfold s_X10_signsIn; rw [if_pos c1, if_neg c2, if_neg c6, if_pos c8]), trivial⟩, hS.F ht⟩) hS.2.2 dX10_signsIn_29
        · skip
          refine lv_iinc (v := 3) (lv' := [(1, .int 3), (2, .int 0), (0, .int p0)]) hx hb dX10_signsIn_19 hl (k := 1) rfl (by decide) (by decide) rfl (fun ls hl => ?_)
          refine lv_iinc (v := (-8)) (lv' := [(2, .int (-8)), (1, .int 3), (0, .int p0)]) hx hb dX10_signsIn_22 hl (k := 1) rfl (by decide) (by decide) rfl (fun ls hl => ?_)
          refine lv_goto (tgt := 5) hx hb dX10_signsIn_25 (by decide) ?_
          refine lv_iload_n hx hb dX10_signsIn_5 rfl (lv_at hl 0 rfl) ?_
          refine lv_if_lt (tgt := 28) hx hb dX10_signsIn_6 (by decide) (fun _ => ?_) (fun c9 => absurd (by decide) c9)
          refine lv_iload_n hx hb dX10_signsIn_28 rfl (lv_at hl 1 rfl) ?_
          exact W.iret (v := 3) hx hb hr (fun t ht hW => ⟨⟨3, (), rfl, (by unfold s_X10_signsIn; rw [if_pos c1, if_neg c2, if_neg c6, if_neg c8]), trivial⟩, hS.F ht⟩) hS.2.2 dX10_signsIn_29
  · skip
    refine lv_iinc (v := 1) (lv' := [(1, .int 1), (2, .int 24), (0, .int p0)]) hx hb dX10_signsIn_19 hl (k := 1) rfl (by decide) (by decide) rfl (fun ls hl => ?_)
    refine lv_iinc (v := 16) (lv' := [(2, .int 16), (1, .int 1), (0, .int p0)]) hx hb dX10_signsIn_22 hl (k := 1) rfl (by decide) (by decide) rfl (fun ls hl => ?_)
    refine lv_goto (tgt := 5) hx hb dX10_signsIn_25 (by decide) ?_
    refine lv_iload_n hx hb dX10_signsIn_5 rfl (lv_at hl 0 rfl) ?_
    refine lv_if_lt (tgt := 28) hx hb dX10_signsIn_6 (by decide) (fun c9 => absurd c9 (by decide)) (fun _ => ?_)
    refine lv_iload_n hx hb dX10_signsIn_9 rfl (lv_at hl 2 rfl) ?_
    refine lv_iload_n hx hb dX10_signsIn_10 rfl (lv_at hl 0 rfl) ?_
    refine lv_iushr (v := (p0.toUInt32 >>> ((16 : Int32).toUInt32 &&& Int32.toUInt32 31)).toInt32) hx hb dX10_signsIn_11 rfl ?_
    refine lv_sipush (v := 255) hx hb dX10_signsIn_12 (by decide) ?_
    refine lv_iand hx hb dX10_signsIn_15 ?_
    refine lv_if_eq (tgt := 22) hx hb dX10_signsIn_16 (by decide) (fun c9 => ?_) (fun c9 => ?_)
    · skip
      refine lv_iinc (v := 8) (lv' := [(2, .int 8), (1, .int 1), (0, .int p0)]) hx hb dX10_signsIn_22 hl (k := 0) rfl (by decide) (by decide) rfl (fun ls hl => ?_)
      refine lv_goto (tgt := 5) hx hb dX10_signsIn_25 (by decide) ?_
      refine lv_iload_n hx hb dX10_signsIn_5 rfl (lv_at hl 0 rfl) ?_
      refine lv_if_lt (tgt := 28) hx hb dX10_signsIn_6 (by decide) (fun c9 => absurd c9 (by decide)) (fun _ => ?_)
      refine lv_iload_n hx hb dX10_signsIn_9 rfl (lv_at hl 2 rfl) ?_
      refine lv_iload_n hx hb dX10_signsIn_10 rfl (lv_at hl 0 rfl) ?_
      refine lv_iushr (v := (p0.toUInt32 >>> ((8 : Int32).toUInt32 &&& Int32.toUInt32 31)).toInt32) hx hb dX10_signsIn_11 rfl ?_
      refine lv_sipush (v := 255) hx hb dX10_signsIn_12 (by decide) ?_
      refine lv_iand hx hb dX10_signsIn_15 ?_
      refine lv_if_eq (tgt := 22) hx hb dX10_signsIn_16 (by decide) (fun c10 => ?_) (fun c10 => ?_)
      · skip
        refine lv_iinc (v := 0) (lv' := [(2, .int 0), (1, .int 1), (0, .int p0)]) hx hb dX10_signsIn_22 hl (k := 0) rfl (by decide) (by decide) rfl (fun ls hl => ?_)
        refine lv_goto (tgt := 5) hx hb dX10_signsIn_25 (by decide) ?_
        refine lv_iload_n hx hb dX10_signsIn_5 rfl (lv_at hl 0 rfl) ?_
        refine lv_if_lt (tgt := 28) hx hb dX10_signsIn_6 (by decide) (fun c9 => absurd c9 (by decide)) (fun _ => ?_)
        refine lv_iload_n hx hb dX10_signsIn_9 rfl (lv_at hl 2 rfl) ?_
        refine lv_iload_n hx hb dX10_signsIn_10 rfl (lv_at hl 0 rfl) ?_
        refine lv_iushr (v := (p0.toUInt32 >>> ((0 : Int32).toUInt32 &&& Int32.toUInt32 31)).toInt32) hx hb dX10_signsIn_11 rfl ?_
        refine lv_sipush (v := 255) hx hb dX10_signsIn_12 (by decide) ?_
        refine lv_iand hx hb dX10_signsIn_15 ?_
        refine lv_if_eq (tgt := 22) hx hb dX10_signsIn_16 (by decide) (fun c11 => ?_) (fun c11 => ?_)
        · skip
          refine lv_iinc (v := (-8)) (lv' := [(2, .int (-8)), (1, .int 1), (0, .int p0)]) hx hb dX10_signsIn_22 hl (k := 0) rfl (by decide) (by decide) rfl (fun ls hl => ?_)
          refine lv_goto (tgt := 5) hx hb dX10_signsIn_25 (by decide) ?_
          refine lv_iload_n hx hb dX10_signsIn_5 rfl (lv_at hl 0 rfl) ?_
          refine lv_if_lt (tgt := 28) hx hb dX10_signsIn_6 (by decide) (fun _ => ?_) (fun c9 => absurd (by decide) c9)
          refine lv_iload_n hx hb dX10_signsIn_28 rfl (lv_at hl 1 rfl) ?_
          exact W.iret (v := 1) hx hb hr (fun t ht hW => ⟨⟨1, (), rfl, (by unfold s_X10_signsIn; rw [if_neg c1, if_pos c9, if_pos c10, if_pos c11]), trivial⟩, hS.F ht⟩) hS.2.2 dX10_signsIn_29
        · skip
          refine lv_iinc (v := 2) (lv' := [(1, .int 2), (2, .int 0), (0, .int p0)]) hx hb dX10_signsIn_19 hl (k := 1) rfl (by decide) (by decide) rfl (fun ls hl => ?_)
          refine lv_iinc (v := (-8)) (lv' := [(2, .int (-8)), (1, .int 2), (0, .int p0)]) hx hb dX10_signsIn_22 hl (k := 1) rfl (by decide) (by decide) rfl (fun ls hl => ?_)
          refine lv_goto (tgt := 5) hx hb dX10_signsIn_25 (by decide) ?_
          refine lv_iload_n hx hb dX10_signsIn_5 rfl (lv_at hl 0 rfl) ?_
          refine lv_if_lt (tgt := 28) hx hb dX10_signsIn_6 (by decide) (fun _ => ?_) (fun c9 => absurd (by decide) c9)
          refine lv_iload_n hx hb dX10_signsIn_28 rfl (lv_at hl 1 rfl) ?_
          exact W.iret (v := 2) hx hb hr (fun t ht hW => ⟨⟨2, (), rfl, (by unfold s_X10_signsIn; rw [if_neg c1, if_pos c9, if_pos c10, if_neg c11]), trivial⟩, hS.F ht⟩) hS.2.2 dX10_signsIn_29
      · skip
        refine lv_iinc (v := 2) (lv' := [(1, .int 2), (2, .int 8), (0, .int p0)]) hx hb dX10_signsIn_19 hl (k := 1) rfl (by decide) (by decide) rfl (fun ls hl => ?_)
        refine lv_iinc (v := 0) (lv' := [(2, .int 0), (1, .int 2), (0, .int p0)]) hx hb dX10_signsIn_22 hl (k := 1) rfl (by decide) (by decide) rfl (fun ls hl => ?_)
        refine lv_goto (tgt := 5) hx hb dX10_signsIn_25 (by decide) ?_
        refine lv_iload_n hx hb dX10_signsIn_5 rfl (lv_at hl 0 rfl) ?_
        refine lv_if_lt (tgt := 28) hx hb dX10_signsIn_6 (by decide) (fun c9 => absurd c9 (by decide)) (fun _ => ?_)
        refine lv_iload_n hx hb dX10_signsIn_9 rfl (lv_at hl 2 rfl) ?_
        refine lv_iload_n hx hb dX10_signsIn_10 rfl (lv_at hl 0 rfl) ?_
        refine lv_iushr (v := (p0.toUInt32 >>> ((0 : Int32).toUInt32 &&& Int32.toUInt32 31)).toInt32) hx hb dX10_signsIn_11 rfl ?_
        refine lv_sipush (v := 255) hx hb dX10_signsIn_12 (by decide) ?_
        refine lv_iand hx hb dX10_signsIn_15 ?_
        refine lv_if_eq (tgt := 22) hx hb dX10_signsIn_16 (by decide) (fun c12 => ?_) (fun c12 => ?_)
        · skip
          refine lv_iinc (v := (-8)) (lv' := [(2, .int (-8)), (1, .int 2), (0, .int p0)]) hx hb dX10_signsIn_22 hl (k := 0) rfl (by decide) (by decide) rfl (fun ls hl => ?_)
          refine lv_goto (tgt := 5) hx hb dX10_signsIn_25 (by decide) ?_
          refine lv_iload_n hx hb dX10_signsIn_5 rfl (lv_at hl 0 rfl) ?_
          refine lv_if_lt (tgt := 28) hx hb dX10_signsIn_6 (by decide) (fun _ => ?_) (fun c9 => absurd (by decide) c9)
          refine lv_iload_n hx hb dX10_signsIn_28 rfl (lv_at hl 1 rfl) ?_
          exact W.iret (v := 2) hx hb hr (fun t ht hW => ⟨⟨2, (), rfl, (by unfold s_X10_signsIn; rw [if_neg c1, if_pos c9, if_neg c10, if_pos c12]), trivial⟩, hS.F ht⟩) hS.2.2 dX10_signsIn_29
        · skip
          refine lv_iinc (v := 3) (lv' := [(1, .int 3), (2, .int 0), (0, .int p0)]) hx hb dX10_signsIn_19 hl (k := 1) rfl (by decide) (by decide) rfl (fun ls hl => ?_)
          refine lv_iinc (v := (-8)) (lv' := [(2, .int (-8)), (1, .int 3), (0, .int p0)]) hx hb dX10_signsIn_22 hl (k := 1) rfl (by decide) (by decide) rfl (fun ls hl => ?_)
          refine lv_goto (tgt := 5) hx hb dX10_signsIn_25 (by decide) ?_
          refine lv_iload_n hx hb dX10_signsIn_5 rfl (lv_at hl 0 rfl) ?_
          refine lv_if_lt (tgt := 28) hx hb dX10_signsIn_6 (by decide) (fun _ => ?_) (fun c9 => absurd (by decide) c9)
          refine lv_iload_n hx hb dX10_signsIn_28 rfl (lv_at hl 1 rfl) ?_
          exact W.iret (v := 3) hx hb hr (fun t ht hW => ⟨⟨3, (), rfl, (by unfold s_X10_signsIn; rw [if_neg c1, if_pos c9, if_neg c10, if_neg c12]), trivial⟩, hS.F ht⟩) hS.2.2 dX10_signsIn_29
    · skip
      refine lv_iinc (v := 2) (lv' := [(1, .int 2), (2, .int 16), (0, .int p0)]) hx hb dX10_signsIn_19 hl (k := 1) rfl (by decide) (by decide) rfl (fun ls hl => ?_)
      refine lv_iinc (v := 8) (lv' := [(2, .int 8), (1, .int 2), (0, .int p0)]) hx hb dX10_signsIn_22 hl (k := 1) rfl (by decide) (by decide) rfl (fun ls hl => ?_)
      refine lv_goto (tgt := 5) hx hb dX10_signsIn_25 (by decide) ?_
      refine lv_iload_n hx hb dX10_signsIn_5 rfl (lv_at hl 0 rfl) ?_
      refine lv_if_lt (tgt := 28) hx hb dX10_signsIn_6 (by decide) (fun c9 => absurd c9 (by decide)) (fun _ => ?_)
      refine lv_iload_n hx hb dX10_signsIn_9 rfl (lv_at hl 2 rfl) ?_
      refine lv_iload_n hx hb dX10_signsIn_10 rfl (lv_at hl 0 rfl) ?_
      refine lv_iushr (v := (p0.toUInt32 >>> ((8 : Int32).toUInt32 &&& Int32.toUInt32 31)).toInt32) hx hb dX10_signsIn_11 rfl ?_
      refine lv_sipush (v := 255) hx hb dX10_signsIn_12 (by decide) ?_
      refine lv_iand hx hb dX10_signsIn_15 ?_
      refine lv_if_eq (tgt := 22) hx hb dX10_signsIn_16 (by decide) (fun c13 => ?_) (fun c13 => ?_)
      · skip
        refine lv_iinc (v := 0) (lv' := [(2, .int 0), (1, .int 2), (0, .int p0)]) hx hb dX10_signsIn_22 hl (k := 0) rfl (by decide) (by decide) rfl (fun ls hl => ?_)
        refine lv_goto (tgt := 5) hx hb dX10_signsIn_25 (by decide) ?_
        refine lv_iload_n hx hb dX10_signsIn_5 rfl (lv_at hl 0 rfl) ?_
        refine lv_if_lt (tgt := 28) hx hb dX10_signsIn_6 (by decide) (fun c9 => absurd c9 (by decide)) (fun _ => ?_)
        refine lv_iload_n hx hb dX10_signsIn_9 rfl (lv_at hl 2 rfl) ?_
        refine lv_iload_n hx hb dX10_signsIn_10 rfl (lv_at hl 0 rfl) ?_
        refine lv_iushr (v := (p0.toUInt32 >>> ((0 : Int32).toUInt32 &&& Int32.toUInt32 31)).toInt32) hx hb dX10_signsIn_11 rfl ?_
        refine lv_sipush (v := 255) hx hb dX10_signsIn_12 (by decide) ?_
        refine lv_iand hx hb dX10_signsIn_15 ?_
        refine lv_if_eq (tgt := 22) hx hb dX10_signsIn_16 (by decide) (fun c14 => ?_) (fun c14 => ?_)
        · skip
          refine lv_iinc (v := (-8)) (lv' := [(2, .int (-8)), (1, .int 2), (0, .int p0)]) hx hb dX10_signsIn_22 hl (k := 0) rfl (by decide) (by decide) rfl (fun ls hl => ?_)
          refine lv_goto (tgt := 5) hx hb dX10_signsIn_25 (by decide) ?_
          refine lv_iload_n hx hb dX10_signsIn_5 rfl (lv_at hl 0 rfl) ?_
          refine lv_if_lt (tgt := 28) hx hb dX10_signsIn_6 (by decide) (fun _ => ?_) (fun c9 => absurd (by decide) c9)
          refine lv_iload_n hx hb dX10_signsIn_28 rfl (lv_at hl 1 rfl) ?_
          exact W.iret (v := 2) hx hb hr (fun t ht hW => ⟨⟨2, (), rfl, (by unfold s_X10_signsIn; rw [if_neg c1, if_neg c9, if_pos c13, if_pos c14]), trivial⟩, hS.F ht⟩) hS.2.2 dX10_signsIn_29
        · skip
          refine lv_iinc (v := 3) (lv' := [(1, .int 3), (2, .int 0), (0, .int p0)]) hx hb dX10_signsIn_19 hl (k := 1) rfl (by decide) (by decide) rfl (fun ls hl => ?_)
          refine lv_iinc (v := (-8)) (lv' := [(2, .int (-8)), (1, .int 3), (0, .int p0)]) hx hb dX10_signsIn_22 hl (k := 1) rfl (by decide) (by decide) rfl (fun ls hl => ?_)
          refine lv_goto (tgt := 5) hx hb dX10_signsIn_25 (by decide) ?_
          refine lv_iload_n hx hb dX10_signsIn_5 rfl (lv_at hl 0 rfl) ?_
          refine lv_if_lt (tgt := 28) hx hb dX10_signsIn_6 (by decide) (fun _ => ?_) (fun c9 => absurd (by decide) c9)
          refine lv_iload_n hx hb dX10_signsIn_28 rfl (lv_at hl 1 rfl) ?_
          exact W.iret (v := 3) hx hb hr (fun t ht hW => ⟨⟨3, (), rfl, (by unfold s_X10_signsIn; rw [if_neg c1, if_neg c9, if_pos c13, if_neg c14]), trivial⟩, hS.F ht⟩) hS.2.2 dX10_signsIn_29
      · skip
        refine lv_iinc (v := 3) (lv' := [(1, .int 3), (2, .int 8), (0, .int p0)]) hx hb dX10_signsIn_19 hl (k := 1) rfl (by decide) (by decide) rfl (fun ls hl => ?_)
        refine lv_iinc (v := 0) (lv' := [(2, .int 0), (1, .int 3), (0, .int p0)]) hx hb dX10_signsIn_22 hl (k := 1) rfl (by decide) (by decide) rfl (fun ls hl => ?_)
        refine lv_goto (tgt := 5) hx hb dX10_signsIn_25 (by decide) ?_
        refine lv_iload_n hx hb dX10_signsIn_5 rfl (lv_at hl 0 rfl) ?_
        refine lv_if_lt (tgt := 28) hx hb dX10_signsIn_6 (by decide) (fun c9 => absurd c9 (by decide)) (fun _ => ?_)
        refine lv_iload_n hx hb dX10_signsIn_9 rfl (lv_at hl 2 rfl) ?_
        refine lv_iload_n hx hb dX10_signsIn_10 rfl (lv_at hl 0 rfl) ?_
        refine lv_iushr (v := (p0.toUInt32 >>> ((0 : Int32).toUInt32 &&& Int32.toUInt32 31)).toInt32) hx hb dX10_signsIn_11 rfl ?_
        refine lv_sipush (v := 255) hx hb dX10_signsIn_12 (by decide) ?_
        refine lv_iand hx hb dX10_signsIn_15 ?_
        refine lv_if_eq (tgt := 22) hx hb dX10_signsIn_16 (by decide) (fun c15 => ?_) (fun c15 => ?_)
        · skip
          refine lv_iinc (v := (-8)) (lv' := [(2, .int (-8)), (1, .int 3), (0, .int p0)]) hx hb dX10_signsIn_22 hl (k := 0) rfl (by decide) (by decide) rfl (fun ls hl => ?_)
          refine lv_goto (tgt := 5) hx hb dX10_signsIn_25 (by decide) ?_
          refine lv_iload_n hx hb dX10_signsIn_5 rfl (lv_at hl 0 rfl) ?_
          refine lv_if_lt (tgt := 28) hx hb dX10_signsIn_6 (by decide) (fun _ => ?_) (fun c9 => absurd (by decide) c9)
          refine lv_iload_n hx hb dX10_signsIn_28 rfl (lv_at hl 1 rfl) ?_
          exact W.iret (v := 3) hx hb hr (fun t ht hW => ⟨⟨3, (), rfl, (by unfold s_X10_signsIn; rw [if_neg c1, if_neg c9, if_neg c13, if_pos c15]), trivial⟩, hS.F ht⟩) hS.2.2 dX10_signsIn_29
        · skip
          refine lv_iinc (v := 4) (lv' := [(1, .int 4), (2, .int 0), (0, .int p0)]) hx hb dX10_signsIn_19 hl (k := 1) rfl (by decide) (by decide) rfl (fun ls hl => ?_)
          refine lv_iinc (v := (-8)) (lv' := [(2, .int (-8)), (1, .int 4), (0, .int p0)]) hx hb dX10_signsIn_22 hl (k := 1) rfl (by decide) (by decide) rfl (fun ls hl => ?_)
          refine lv_goto (tgt := 5) hx hb dX10_signsIn_25 (by decide) ?_
          refine lv_iload_n hx hb dX10_signsIn_5 rfl (lv_at hl 0 rfl) ?_
          refine lv_if_lt (tgt := 28) hx hb dX10_signsIn_6 (by decide) (fun _ => ?_) (fun c9 => absurd (by decide) c9)
          refine lv_iload_n hx hb dX10_signsIn_28 rfl (lv_at hl 1 rfl) ?_
          exact W.iret (v := 4) hx hb hr (fun t ht hW => ⟨⟨4, (), rfl, (by unfold s_X10_signsIn; rw [if_neg c1, if_neg c9, if_neg c13, if_neg c15]), trivial⟩, hS.F ht⟩) hS.2.2 dX10_signsIn_29

/-- how many of a word's four bytes aren't 0 -/
def zcnt (p : Int32) : Nat := (if ((p.toUInt32 >>> ((24 : Int32).toUInt32 &&& Int32.toUInt32 31)).toInt32 &&& 255) = 0 then 0 else 1) + (if ((p.toUInt32 >>> ((16 : Int32).toUInt32 &&& Int32.toUInt32 31)).toInt32 &&& 255) = 0 then 0 else 1) + (if ((p.toUInt32 >>> ((8 : Int32).toUInt32 &&& Int32.toUInt32 31)).toInt32 &&& 255) = 0 then 0 else 1) + (if ((p.toUInt32 >>> ((0 : Int32).toUInt32 &&& Int32.toUInt32 31)).toInt32 &&& 255) = 0 then 0 else 1)
theorem zcnt_le (p : Int32) : zcnt p ≤ 4 := by
  unfold zcnt
  split <;> split <;> split <;> split <;> decide
theorem zs_signsIn (p : Int32) : s_X10_signsIn p = nI (zcnt p) := by
  unfold s_X10_signsIn zcnt
  by_cases h1 : ((p.toUInt32 >>> ((24 : Int32).toUInt32 &&& Int32.toUInt32 31)).toInt32 &&& 255) = 0 <;> by_cases h2 : ((p.toUInt32 >>> ((16 : Int32).toUInt32 &&& Int32.toUInt32 31)).toInt32 &&& 255) = 0 <;> by_cases h3 : ((p.toUInt32 >>> ((8 : Int32).toUInt32 &&& Int32.toUInt32 31)).toInt32 &&& 255) = 0 <;> by_cases h4 : ((p.toUInt32 >>> ((0 : Int32).toUInt32 &&& Int32.toUInt32 31)).toInt32 &&& 255) = 0 <;> simp only [if_pos, if_neg, h1, h2, h3, h4, if_true, if_false] <;> decide

set_option maxHeartbeats 4000000 in
set_option maxRecDepth 100000 in
theorem c_X10_append (l : Launch) (dC : Nat → ClassId) (dI : Nat → Nat → Nat) (cI cZ : ClassId) (sz : Nat) (h0 : Nat) (h1 : Nat) (j : Nat) (f : Nat → Int32) (v2 : Value) (p0 : Int32) (hj : j ≤ 236) : Met l yX10_append wsX10_append ({ frames := 0, cells := 0, slots := 0, locals := 0 }) (va_Pc [.ref h0, .int p0] (zPre dC dI cI cZ sz [(h0, .inr (10, [.ref h1, .int (nI j), v2])), (h1, .inl (cI, 240, .inl f))])) (va_Qv (fun (_ : Unit) => True) (fun (_ : Unit) t => ∃ len2 : Int32, ∃ f2 : Nat → Int32, (va_P (dC, dI) vwCl [(h0, .inr (10, [.ref h1, .int len2, v2])), (h1, .inl (cI, 240, .inl f2))] t.heap ∧ va_D (va_A [(h0, .inr (10, [.ref h1, .int (nI j), v2])), (h1, .inl (cI, 240, .inl f))] sz) [(h0, .inr (10, [.ref h1, .int len2, v2])), (h1, .inl (cI, 240, .inl f2))] ∧ len2 = nI (j + zcnt p0))) (va_A [(h0, .inr (10, [.ref h1, .int (nI j), v2])), (h1, .inl (cI, 240, .inl f))] sz)) 0 0 (va_A [(h0, .inr (10, [.ref h1, .int (nI j), v2])), (h1, .inl (cI, 240, .inl f))] sz) := by
  refine Met.ofW (cc := cX10_append) (maxL := 4) (ret := none) (by decide) rfl ?_
  intro p e s m args below meth c s₁ B hml hv
  obtain ⟨rfl, hsz, hP, hK, hD0, hG⟩ := hv
  have hx := B.exec
  have hb := B.bytes
  have hr := B.returns
  have hts := atoms_spec (ws := wsX10_append) B.pre
  have hown : s.vm.findClass RX10 = some m.cls := findClass_of_methodNamed B.named
  have hlocks := B.notSynchronized
  have hinX10 : ∀ w ∈ wsX100, w ∈ wsX10_append := by decide +kernel
  subst hsz
  have hD := hD0.self (sz := s.heap.size)
  generalize hAe : va_A [(h0, .inr (10, [.ref h1, .int (nI j), v2])), (h1, .inl (cI, 240, .inl f))] s.heap.size = A at hD ⊢
  have hA : ∀ q : Nat, s.heap.size ≤ q → A q := fun q h => by rw [← hAe]; exact Or.inr h
  have hS : va_S A s.heap s.heap [] := va_S.rf
  have hP : va_P (dC, dI) vwCl [(h0, .inr (10, [.ref h1, .int (nI j), v2])), (h1, .inl (cI, 240, .inl f))] s.heap := hP
  have hl := lv_entry ([.ref h0, .int p0]) (n := 4) (Nat.le_of_ble_eq_true rfl)
  rw [lg_entry_eq]
  generalize (lg_sl ([.ref h0, .int p0]) ++ List.replicate (4 - (lg_sl ([.ref h0, .int p0])).length) Slot.unset).toArray = ls at hl ⊢
  have hl : lv_has ls 4 [(0, .ref h0), (1, .int p0)] := hl
  refine lv_bipush (v := 24) hx hb dX10_append_0 (by decide) ?_
  refine lv_istore_n (lv' := [(2, .int 24), (0, .ref h0), (1, .int p0)]) hx hb dX10_append_2 rfl hl (by decide) rfl (fun ls hl => ?_)
  refine lv_iload_n hx hb dX10_append_3 rfl (lv_at hl 0 rfl) ?_
  refine lv_if_lt (tgt := 55) hx hb dX10_append_4 (by decide) (fun c9 => absurd c9 (by decide)) (fun _ => ?_)
  refine lv_iload_n hx hb dX10_append_7 rfl (lv_at hl 2 rfl) ?_
  refine lv_iload_n hx hb dX10_append_8 rfl (lv_at hl 0 rfl) ?_
  refine lv_iushr (v := (p0.toUInt32 >>> ((24 : Int32).toUInt32 &&& Int32.toUInt32 31)).toInt32) hx hb dX10_append_9 rfl ?_
  refine lv_sipush (v := 255) hx hb dX10_append_10 (by decide) ?_
  refine lv_iand hx hb dX10_append_13 ?_
  refine lv_istore_n (lv' := [(3, .int (((p0.toUInt32 >>> ((24 : Int32).toUInt32 &&& Int32.toUInt32 31)).toInt32) &&& 255)), (2, .int 24), (0, .ref h0), (1, .int p0)]) hx hb dX10_append_14 rfl hl (by decide) rfl (fun ls hl => ?_)
  refine lv_iload_n hx hb dX10_append_15 rfl (lv_at hl 0 rfl) ?_
  refine lv_if_eq (tgt := 49) hx hb dX10_append_16 (by decide) (fun c1 => ?_) (fun c1 => ?_)
  · skip
    refine lv_iinc (v := 16) (lv' := [(2, .int 16), (3, .int (((p0.toUInt32 >>> ((24 : Int32).toUInt32 &&& Int32.toUInt32 31)).toInt32) &&& 255)), (0, .ref h0), (1, .int p0)]) hx hb dX10_append_49 hl (k := 1) rfl (by decide) (by decide) rfl (fun ls hl => ?_)
    refine lv_goto (tgt := 3) hx hb dX10_append_52 (by decide) ?_
    refine lv_iload_n hx hb dX10_append_3 rfl (lv_at hl 0 rfl) ?_
    refine lv_if_lt (tgt := 55) hx hb dX10_append_4 (by decide) (fun c9 => absurd c9 (by decide)) (fun _ => ?_)
    refine lv_iload_n hx hb dX10_append_7 rfl (lv_at hl 3 rfl) ?_
    refine lv_iload_n hx hb dX10_append_8 rfl (lv_at hl 0 rfl) ?_
    refine lv_iushr (v := (p0.toUInt32 >>> ((16 : Int32).toUInt32 &&& Int32.toUInt32 31)).toInt32) hx hb dX10_append_9 rfl ?_
    refine lv_sipush (v := 255) hx hb dX10_append_10 (by decide) ?_
    refine lv_iand hx hb dX10_append_13 ?_
    refine lv_istore_n (lv' := [(3, .int (((p0.toUInt32 >>> ((16 : Int32).toUInt32 &&& Int32.toUInt32 31)).toInt32) &&& 255)), (2, .int 16), (0, .ref h0), (1, .int p0)]) hx hb dX10_append_14 rfl hl (by decide) rfl (fun ls hl => ?_)
    refine lv_iload_n hx hb dX10_append_15 rfl (lv_at hl 0 rfl) ?_
    refine lv_if_eq (tgt := 49) hx hb dX10_append_16 (by decide) (fun c2 => ?_) (fun c2 => ?_)
    · skip
      refine lv_iinc (v := 8) (lv' := [(2, .int 8), (3, .int (((p0.toUInt32 >>> ((16 : Int32).toUInt32 &&& Int32.toUInt32 31)).toInt32) &&& 255)), (0, .ref h0), (1, .int p0)]) hx hb dX10_append_49 hl (k := 1) rfl (by decide) (by decide) rfl (fun ls hl => ?_)
      refine lv_goto (tgt := 3) hx hb dX10_append_52 (by decide) ?_
      refine lv_iload_n hx hb dX10_append_3 rfl (lv_at hl 0 rfl) ?_
      refine lv_if_lt (tgt := 55) hx hb dX10_append_4 (by decide) (fun c9 => absurd c9 (by decide)) (fun _ => ?_)
      refine lv_iload_n hx hb dX10_append_7 rfl (lv_at hl 3 rfl) ?_
      refine lv_iload_n hx hb dX10_append_8 rfl (lv_at hl 0 rfl) ?_
      refine lv_iushr (v := (p0.toUInt32 >>> ((8 : Int32).toUInt32 &&& Int32.toUInt32 31)).toInt32) hx hb dX10_append_9 rfl ?_
      refine lv_sipush (v := 255) hx hb dX10_append_10 (by decide) ?_
      refine lv_iand hx hb dX10_append_13 ?_
      refine lv_istore_n (lv' := [(3, .int (((p0.toUInt32 >>> ((8 : Int32).toUInt32 &&& Int32.toUInt32 31)).toInt32) &&& 255)), (2, .int 8), (0, .ref h0), (1, .int p0)]) hx hb dX10_append_14 rfl hl (by decide) rfl (fun ls hl => ?_)
      refine lv_iload_n hx hb dX10_append_15 rfl (lv_at hl 0 rfl) ?_
      refine lv_if_eq (tgt := 49) hx hb dX10_append_16 (by decide) (fun c3 => ?_) (fun c3 => ?_)
      · skip
        refine lv_iinc (v := 0) (lv' := [(2, .int 0), (3, .int (((p0.toUInt32 >>> ((8 : Int32).toUInt32 &&& Int32.toUInt32 31)).toInt32) &&& 255)), (0, .ref h0), (1, .int p0)]) hx hb dX10_append_49 hl (k := 1) rfl (by decide) (by decide) rfl (fun ls hl => ?_)
        refine lv_goto (tgt := 3) hx hb dX10_append_52 (by decide) ?_
        refine lv_iload_n hx hb dX10_append_3 rfl (lv_at hl 0 rfl) ?_
        refine lv_if_lt (tgt := 55) hx hb dX10_append_4 (by decide) (fun c9 => absurd c9 (by decide)) (fun _ => ?_)
        refine lv_iload_n hx hb dX10_append_7 rfl (lv_at hl 3 rfl) ?_
        refine lv_iload_n hx hb dX10_append_8 rfl (lv_at hl 0 rfl) ?_
        refine lv_iushr (v := (p0.toUInt32 >>> ((0 : Int32).toUInt32 &&& Int32.toUInt32 31)).toInt32) hx hb dX10_append_9 rfl ?_
        refine lv_sipush (v := 255) hx hb dX10_append_10 (by decide) ?_
        refine lv_iand hx hb dX10_append_13 ?_
        refine lv_istore_n (lv' := [(3, .int (((p0.toUInt32 >>> ((0 : Int32).toUInt32 &&& Int32.toUInt32 31)).toInt32) &&& 255)), (2, .int 0), (0, .ref h0), (1, .int p0)]) hx hb dX10_append_14 rfl hl (by decide) rfl (fun ls hl => ?_)
        refine lv_iload_n hx hb dX10_append_15 rfl (lv_at hl 0 rfl) ?_
        refine lv_if_eq (tgt := 49) hx hb dX10_append_16 (by decide) (fun c4 => ?_) (fun c4 => ?_)
        · skip
          refine lv_iinc (v := (-8)) (lv' := [(2, .int (-8)), (3, .int (((p0.toUInt32 >>> ((0 : Int32).toUInt32 &&& Int32.toUInt32 31)).toInt32) &&& 255)), (0, .ref h0), (1, .int p0)]) hx hb dX10_append_49 hl (k := 1) rfl (by decide) (by decide) rfl (fun ls hl => ?_)
          refine lv_goto (tgt := 3) hx hb dX10_append_52 (by decide) ?_
          refine lv_iload_n hx hb dX10_append_3 rfl (lv_at hl 0 rfl) ?_
          refine lv_if_lt (tgt := 55) hx hb dX10_append_4 (by decide) (fun _ => ?_) (fun c9 => absurd (by decide) c9)
          have hP9 := hP.sub (ws' := [(h0, .inr (10, [.ref h1, .int (nI j), v2])), (h1, .inl (cI, 240, .inl f))]) [0, 1] rfl
          have hD9 := hD.sub (ws' := [(h0, .inr (10, [.ref h1, .int (nI j), v2])), (h1, .inl (cI, 240, .inl f))]) [0, 1] (by decide) rfl
          exact W.vret hx hb hr (fun t ht hW => ⟨⟨(), rfl, trivial, ⟨(nI j), f, by rw [ht]; exact hP9, hD9, (by unfold zcnt; rw [if_pos c1, if_pos c2, if_pos c3, if_pos c4] <;> rfl)⟩⟩, hS.F ht⟩) hS.2.2 dX10_append_55
        · skip
          refine lv_aload_n hx hb dX10_append_19 rfl (lv_at hl 2 rfl) ?_
          refine va_get (D := (dC, dI)) (ci := 10) (v := .int (nI j)) (C := RX10) (T := TX10) (N := 3) hx hb hts hinX10 hown hK hP 0 rfl rfl 1 (by decide) (hts (.fieldLink RX10 15 "DreamGuard$Tape" "length" "I") (by decide +kernel)) (fun _ h9 => h9) rfl dX10_append_20 ?_
          refine lv_sipush (v := 240) hx hb dX10_append_23 (by decide) ?_
          refine lv_icmp_ge (tgt := 49) hx hb dX10_append_26 (by decide) (fun c9 => absurd c9 (zn240 (by omega))) (fun _ => ?_)
          refine lv_aload_n hx hb dX10_append_29 rfl (lv_at hl 2 rfl) ?_
          refine va_get (D := (dC, dI)) (ci := 10) (v := .ref h1) (C := RX10) (T := TX10) (N := 3) hx hb hts hinX10 hown hK hP 0 rfl rfl 0 (by decide) (hts (.fieldLink RX10 9 "DreamGuard$Tape" "signs" "[I") (by decide +kernel)) (fun _ h9 => h9) rfl dX10_append_30 ?_
          refine lv_aload_n hx hb dX10_append_33 rfl (lv_at hl 2 rfl) ?_
          refine va_get (D := (dC, dI)) (ci := 10) (v := .int (nI j)) (C := RX10) (T := TX10) (N := 3) hx hb hts hinX10 hown hK hP 0 rfl rfl 1 (by decide) (hts (.fieldLink RX10 15 "DreamGuard$Tape" "length" "I") (by decide +kernel)) (fun _ h9 => h9) rfl dX10_append_34 ?_
          refine lv_iload_n hx hb dX10_append_37 rfl (lv_at hl 0 rfl) ?_
          refine va_iast (i := (nI j)) hx hb hK hP hD hS 1 0 rfl rfl (vp_in_nI (by omega) (by decide)) dX10_append_38 (fun H locs hP hD hS => ?_)
          generalize hff5 : upd f (nI j).toNatClampNeg (((p0.toUInt32 >>> ((0 : Int32).toUInt32 &&& Int32.toUInt32 31)).toInt32) &&& 255) = f5 at hP hD
          have hP : va_P (dC, dI) vwCl [(h0, .inr (10, [.ref h1, .int (nI j), v2])), (h1, .inl (cI, 240, .inl f5))] H := hP
          have hD : va_D A [(h0, .inr (10, [.ref h1, .int (nI j), v2])), (h1, .inl (cI, 240, .inl f5))] := hD
          refine lv_aload_n hx hb dX10_append_39 rfl (lv_at hl 2 rfl) ?_
          refine lv_dup hx hb dX10_append_40 rfl ?_
          refine va_get (D := (dC, dI)) (ci := 10) (v := .int (nI j)) (C := RX10) (T := TX10) (N := 3) hx hb hts hinX10 hown hK hP 0 rfl rfl 1 (by decide) (hts (.fieldLink RX10 15 "DreamGuard$Tape" "length" "I") (by decide +kernel)) (fun _ h9 => h9) rfl dX10_append_41 ?_
          refine lv_iconst (v := 1) hx hb dX10_append_44 (by decide) ?_
          refine lv_iadd hx hb dX10_append_45 ?_
          refine lv_topi (fun k6 ek6 => ?_)
          obtain rfl : k6 = nI (j + 1) := ek6.trans (nI_1 _)
          refine va_put (D := (dC, dI)) (ci := 10) (v := .int (nI (j + 1))) (ty := .int) (C := RX10) (T := TX10) (N := 3) hx hb hts hinX10 tyX10 tyX10_ok nmX10 hown hK hP hD hS 0 rfl rfl 1 (by decide) (hts (.fieldLink RX10 15 "DreamGuard$Tape" "length" "I") (by decide +kernel)) (fun _ h9 => h9) rfl (by decide +kernel) rfl rfl (Nat.le_of_ble_eq_true rfl) dX10_append_46 (fun H locs hP hD hS => ?_)
          have hP : va_P (dC, dI) vwCl [(h0, .inr (10, [.ref h1, .int (nI (j + 1)), v2])), (h1, .inl (cI, 240, .inl f5))] H := hP
          have hD : va_D A [(h0, .inr (10, [.ref h1, .int (nI (j + 1)), v2])), (h1, .inl (cI, 240, .inl f5))] := hD
          refine lv_iinc (v := (-8)) (lv' := [(2, .int (-8)), (3, .int (((p0.toUInt32 >>> ((0 : Int32).toUInt32 &&& Int32.toUInt32 31)).toInt32) &&& 255)), (0, .ref h0), (1, .int p0)]) hx hb dX10_append_49 hl (k := 1) rfl (by decide) (by decide) rfl (fun ls hl => ?_)
          refine lv_goto (tgt := 3) hx hb dX10_append_52 (by decide) ?_
          refine lv_iload_n hx hb dX10_append_3 rfl (lv_at hl 0 rfl) ?_
          refine lv_if_lt (tgt := 55) hx hb dX10_append_4 (by decide) (fun _ => ?_) (fun c9 => absurd (by decide) c9)
          have hP9 := hP.sub (ws' := [(h0, .inr (10, [.ref h1, .int (nI (j + 1)), v2])), (h1, .inl (cI, 240, .inl f5))]) [0, 1] rfl
          have hD9 := hD.sub (ws' := [(h0, .inr (10, [.ref h1, .int (nI (j + 1)), v2])), (h1, .inl (cI, 240, .inl f5))]) [0, 1] (by decide) rfl
          exact W.vret hx hb hr (fun t ht hW => ⟨⟨(), rfl, trivial, ⟨(nI (j + 1)), f5, by rw [ht]; exact hP9, hD9, (by unfold zcnt; rw [if_pos c1, if_pos c2, if_pos c3, if_neg c4] <;> rfl)⟩⟩, hS.F ht⟩) hS.2.2 dX10_append_55
      · skip
        refine lv_aload_n hx hb dX10_append_19 rfl (lv_at hl 2 rfl) ?_
        refine va_get (D := (dC, dI)) (ci := 10) (v := .int (nI j)) (C := RX10) (T := TX10) (N := 3) hx hb hts hinX10 hown hK hP 0 rfl rfl 1 (by decide) (hts (.fieldLink RX10 15 "DreamGuard$Tape" "length" "I") (by decide +kernel)) (fun _ h9 => h9) rfl dX10_append_20 ?_
        refine lv_sipush (v := 240) hx hb dX10_append_23 (by decide) ?_
        refine lv_icmp_ge (tgt := 49) hx hb dX10_append_26 (by decide) (fun c9 => absurd c9 (zn240 (by omega))) (fun _ => ?_)
        refine lv_aload_n hx hb dX10_append_29 rfl (lv_at hl 2 rfl) ?_
        refine va_get (D := (dC, dI)) (ci := 10) (v := .ref h1) (C := RX10) (T := TX10) (N := 3) hx hb hts hinX10 hown hK hP 0 rfl rfl 0 (by decide) (hts (.fieldLink RX10 9 "DreamGuard$Tape" "signs" "[I") (by decide +kernel)) (fun _ h9 => h9) rfl dX10_append_30 ?_
        refine lv_aload_n hx hb dX10_append_33 rfl (lv_at hl 2 rfl) ?_
        refine va_get (D := (dC, dI)) (ci := 10) (v := .int (nI j)) (C := RX10) (T := TX10) (N := 3) hx hb hts hinX10 hown hK hP 0 rfl rfl 1 (by decide) (hts (.fieldLink RX10 15 "DreamGuard$Tape" "length" "I") (by decide +kernel)) (fun _ h9 => h9) rfl dX10_append_34 ?_
        refine lv_iload_n hx hb dX10_append_37 rfl (lv_at hl 0 rfl) ?_
        refine va_iast (i := (nI j)) hx hb hK hP hD hS 1 0 rfl rfl (vp_in_nI (by omega) (by decide)) dX10_append_38 (fun H locs hP hD hS => ?_)
        generalize hff7 : upd f (nI j).toNatClampNeg (((p0.toUInt32 >>> ((8 : Int32).toUInt32 &&& Int32.toUInt32 31)).toInt32) &&& 255) = f7 at hP hD
        have hP : va_P (dC, dI) vwCl [(h0, .inr (10, [.ref h1, .int (nI j), v2])), (h1, .inl (cI, 240, .inl f7))] H := hP
        have hD : va_D A [(h0, .inr (10, [.ref h1, .int (nI j), v2])), (h1, .inl (cI, 240, .inl f7))] := hD
        refine lv_aload_n hx hb dX10_append_39 rfl (lv_at hl 2 rfl) ?_
        refine lv_dup hx hb dX10_append_40 rfl ?_
        refine va_get (D := (dC, dI)) (ci := 10) (v := .int (nI j)) (C := RX10) (T := TX10) (N := 3) hx hb hts hinX10 hown hK hP 0 rfl rfl 1 (by decide) (hts (.fieldLink RX10 15 "DreamGuard$Tape" "length" "I") (by decide +kernel)) (fun _ h9 => h9) rfl dX10_append_41 ?_
        refine lv_iconst (v := 1) hx hb dX10_append_44 (by decide) ?_
        refine lv_iadd hx hb dX10_append_45 ?_
        refine lv_topi (fun k8 ek8 => ?_)
        obtain rfl : k8 = nI (j + 1) := ek8.trans (nI_1 _)
        refine va_put (D := (dC, dI)) (ci := 10) (v := .int (nI (j + 1))) (ty := .int) (C := RX10) (T := TX10) (N := 3) hx hb hts hinX10 tyX10 tyX10_ok nmX10 hown hK hP hD hS 0 rfl rfl 1 (by decide) (hts (.fieldLink RX10 15 "DreamGuard$Tape" "length" "I") (by decide +kernel)) (fun _ h9 => h9) rfl (by decide +kernel) rfl rfl (Nat.le_of_ble_eq_true rfl) dX10_append_46 (fun H locs hP hD hS => ?_)
        have hP : va_P (dC, dI) vwCl [(h0, .inr (10, [.ref h1, .int (nI (j + 1)), v2])), (h1, .inl (cI, 240, .inl f7))] H := hP
        have hD : va_D A [(h0, .inr (10, [.ref h1, .int (nI (j + 1)), v2])), (h1, .inl (cI, 240, .inl f7))] := hD
        refine lv_iinc (v := 0) (lv' := [(2, .int 0), (3, .int (((p0.toUInt32 >>> ((8 : Int32).toUInt32 &&& Int32.toUInt32 31)).toInt32) &&& 255)), (0, .ref h0), (1, .int p0)]) hx hb dX10_append_49 hl (k := 1) rfl (by decide) (by decide) rfl (fun ls hl => ?_)
        refine lv_goto (tgt := 3) hx hb dX10_append_52 (by decide) ?_
        refine lv_iload_n hx hb dX10_append_3 rfl (lv_at hl 0 rfl) ?_
        refine lv_if_lt (tgt := 55) hx hb dX10_append_4 (by decide) (fun c9 => absurd c9 (by decide)) (fun _ => ?_)
        refine lv_iload_n hx hb dX10_append_7 rfl (lv_at hl 3 rfl) ?_
        refine lv_iload_n hx hb dX10_append_8 rfl (lv_at hl 0 rfl) ?_
        refine lv_iushr (v := (p0.toUInt32 >>> ((0 : Int32).toUInt32 &&& Int32.toUInt32 31)).toInt32) hx hb dX10_append_9 rfl ?_
        refine lv_sipush (v := 255) hx hb dX10_append_10 (by decide) ?_
        refine lv_iand hx hb dX10_append_13 ?_
        refine lv_istore_n (lv' := [(3, .int (((p0.toUInt32 >>> ((0 : Int32).toUInt32 &&& Int32.toUInt32 31)).toInt32) &&& 255)), (2, .int 0), (0, .ref h0), (1, .int p0)]) hx hb dX10_append_14 rfl hl (by decide) rfl (fun ls hl => ?_)
        refine lv_iload_n hx hb dX10_append_15 rfl (lv_at hl 0 rfl) ?_
        refine lv_if_eq (tgt := 49) hx hb dX10_append_16 (by decide) (fun c9 => ?_) (fun c9 => ?_)
        · skip
          refine lv_iinc (v := (-8)) (lv' := [(2, .int (-8)), (3, .int (((p0.toUInt32 >>> ((0 : Int32).toUInt32 &&& Int32.toUInt32 31)).toInt32) &&& 255)), (0, .ref h0), (1, .int p0)]) hx hb dX10_append_49 hl (k := 1) rfl (by decide) (by decide) rfl (fun ls hl => ?_)
          refine lv_goto (tgt := 3) hx hb dX10_append_52 (by decide) ?_
          refine lv_iload_n hx hb dX10_append_3 rfl (lv_at hl 0 rfl) ?_
          refine lv_if_lt (tgt := 55) hx hb dX10_append_4 (by decide) (fun _ => ?_) (fun c9 => absurd (by decide) c9)
          have hP9 := hP.sub (ws' := [(h0, .inr (10, [.ref h1, .int (nI (j + 1)), v2])), (h1, .inl (cI, 240, .inl f7))]) [0, 1] rfl
          have hD9 := hD.sub (ws' := [(h0, .inr (10, [.ref h1, .int (nI (j + 1)), v2])), (h1, .inl (cI, 240, .inl f7))]) [0, 1] (by decide) rfl
          exact W.vret hx hb hr (fun t ht hW => ⟨⟨(), rfl, trivial, ⟨(nI (j + 1)), f7, by rw [ht]; exact hP9, hD9, (by unfold zcnt; rw [if_pos c1, if_pos c2, if_neg c3, if_pos c9] <;> rfl)⟩⟩, hS.F ht⟩) hS.2.2 dX10_append_55
        · skip
          refine lv_aload_n hx hb dX10_append_19 rfl (lv_at hl 2 rfl) ?_
          refine va_get (D := (dC, dI)) (ci := 10) (v := .int (nI (j + 1))) (C := RX10) (T := TX10) (N := 3) hx hb hts hinX10 hown hK hP 0 rfl rfl 1 (by decide) (hts (.fieldLink RX10 15 "DreamGuard$Tape" "length" "I") (by decide +kernel)) (fun _ h9 => h9) rfl dX10_append_20 ?_
          refine lv_sipush (v := 240) hx hb dX10_append_23 (by decide) ?_
          refine lv_icmp_ge (tgt := 49) hx hb dX10_append_26 (by decide) (fun c9 => absurd c9 (zn240 (by omega))) (fun _ => ?_)
          refine lv_aload_n hx hb dX10_append_29 rfl (lv_at hl 2 rfl) ?_
          refine va_get (D := (dC, dI)) (ci := 10) (v := .ref h1) (C := RX10) (T := TX10) (N := 3) hx hb hts hinX10 hown hK hP 0 rfl rfl 0 (by decide) (hts (.fieldLink RX10 9 "DreamGuard$Tape" "signs" "[I") (by decide +kernel)) (fun _ h9 => h9) rfl dX10_append_30 ?_
          refine lv_aload_n hx hb dX10_append_33 rfl (lv_at hl 2 rfl) ?_
          refine va_get (D := (dC, dI)) (ci := 10) (v := .int (nI (j + 1))) (C := RX10) (T := TX10) (N := 3) hx hb hts hinX10 hown hK hP 0 rfl rfl 1 (by decide) (hts (.fieldLink RX10 15 "DreamGuard$Tape" "length" "I") (by decide +kernel)) (fun _ h9 => h9) rfl dX10_append_34 ?_
          refine lv_iload_n hx hb dX10_append_37 rfl (lv_at hl 0 rfl) ?_
          refine va_iast (i := (nI (j + 1))) hx hb hK hP hD hS 1 0 rfl rfl (vp_in_nI (by omega) (by decide)) dX10_append_38 (fun H locs hP hD hS => ?_)
          generalize hff10 : upd f7 (nI (j + 1)).toNatClampNeg (((p0.toUInt32 >>> ((0 : Int32).toUInt32 &&& Int32.toUInt32 31)).toInt32) &&& 255) = f10 at hP hD
          have hP : va_P (dC, dI) vwCl [(h0, .inr (10, [.ref h1, .int (nI (j + 1)), v2])), (h1, .inl (cI, 240, .inl f10))] H := hP
          have hD : va_D A [(h0, .inr (10, [.ref h1, .int (nI (j + 1)), v2])), (h1, .inl (cI, 240, .inl f10))] := hD
          refine lv_aload_n hx hb dX10_append_39 rfl (lv_at hl 2 rfl) ?_
          refine lv_dup hx hb dX10_append_40 rfl ?_
          refine va_get (D := (dC, dI)) (ci := 10) (v := .int (nI (j + 1))) (C := RX10) (T := TX10) (N := 3) hx hb hts hinX10 hown hK hP 0 rfl rfl 1 (by decide) (hts (.fieldLink RX10 15 "DreamGuard$Tape" "length" "I") (by decide +kernel)) (fun _ h9 => h9) rfl dX10_append_41 ?_
          refine lv_iconst (v := 1) hx hb dX10_append_44 (by decide) ?_
          refine lv_iadd hx hb dX10_append_45 ?_
          refine lv_topi (fun k11 ek11 => ?_)
          obtain rfl : k11 = nI (j + 1 + 1) := ek11.trans (nI_1 _)
          refine va_put (D := (dC, dI)) (ci := 10) (v := .int (nI (j + 1 + 1))) (ty := .int) (C := RX10) (T := TX10) (N := 3) hx hb hts hinX10 tyX10 tyX10_ok nmX10 hown hK hP hD hS 0 rfl rfl 1 (by decide) (hts (.fieldLink RX10 15 "DreamGuard$Tape" "length" "I") (by decide +kernel)) (fun _ h9 => h9) rfl (by decide +kernel) rfl rfl (Nat.le_of_ble_eq_true rfl) dX10_append_46 (fun H locs hP hD hS => ?_)
          have hP : va_P (dC, dI) vwCl [(h0, .inr (10, [.ref h1, .int (nI (j + 1 + 1)), v2])), (h1, .inl (cI, 240, .inl f10))] H := hP
          have hD : va_D A [(h0, .inr (10, [.ref h1, .int (nI (j + 1 + 1)), v2])), (h1, .inl (cI, 240, .inl f10))] := hD
          refine lv_iinc (v := (-8)) (lv' := [(2, .int (-8)), (3, .int (((p0.toUInt32 >>> ((0 : Int32).toUInt32 &&& Int32.toUInt32 31)).toInt32) &&& 255)), (0, .ref h0), (1, .int p0)]) hx hb dX10_append_49 hl (k := 1) rfl (by decide) (by decide) rfl (fun ls hl => ?_)
          refine lv_goto (tgt := 3) hx hb dX10_append_52 (by decide) ?_
          refine lv_iload_n hx hb dX10_append_3 rfl (lv_at hl 0 rfl) ?_
          refine lv_if_lt (tgt := 55) hx hb dX10_append_4 (by decide) (fun _ => ?_) (fun c9 => absurd (by decide) c9)
          have hP9 := hP.sub (ws' := [(h0, .inr (10, [.ref h1, .int (nI (j + 1 + 1)), v2])), (h1, .inl (cI, 240, .inl f10))]) [0, 1] rfl
          have hD9 := hD.sub (ws' := [(h0, .inr (10, [.ref h1, .int (nI (j + 1 + 1)), v2])), (h1, .inl (cI, 240, .inl f10))]) [0, 1] (by decide) rfl
          exact W.vret hx hb hr (fun t ht hW => ⟨⟨(), rfl, trivial, ⟨(nI (j + 1 + 1)), f10, by rw [ht]; exact hP9, hD9, (by unfold zcnt; rw [if_pos c1, if_pos c2, if_neg c3, if_neg c9] <;> rfl)⟩⟩, hS.F ht⟩) hS.2.2 dX10_append_55
    · skip
      refine lv_aload_n hx hb dX10_append_19 rfl (lv_at hl 2 rfl) ?_
      refine va_get (D := (dC, dI)) (ci := 10) (v := .int (nI j)) (C := RX10) (T := TX10) (N := 3) hx hb hts hinX10 hown hK hP 0 rfl rfl 1 (by decide) (hts (.fieldLink RX10 15 "DreamGuard$Tape" "length" "I") (by decide +kernel)) (fun _ h9 => h9) rfl dX10_append_20 ?_
      refine lv_sipush (v := 240) hx hb dX10_append_23 (by decide) ?_
      refine lv_icmp_ge (tgt := 49) hx hb dX10_append_26 (by decide) (fun c9 => absurd c9 (zn240 (by omega))) (fun _ => ?_)
      refine lv_aload_n hx hb dX10_append_29 rfl (lv_at hl 2 rfl) ?_
      refine va_get (D := (dC, dI)) (ci := 10) (v := .ref h1) (C := RX10) (T := TX10) (N := 3) hx hb hts hinX10 hown hK hP 0 rfl rfl 0 (by decide) (hts (.fieldLink RX10 9 "DreamGuard$Tape" "signs" "[I") (by decide +kernel)) (fun _ h9 => h9) rfl dX10_append_30 ?_
      refine lv_aload_n hx hb dX10_append_33 rfl (lv_at hl 2 rfl) ?_
      refine va_get (D := (dC, dI)) (ci := 10) (v := .int (nI j)) (C := RX10) (T := TX10) (N := 3) hx hb hts hinX10 hown hK hP 0 rfl rfl 1 (by decide) (hts (.fieldLink RX10 15 "DreamGuard$Tape" "length" "I") (by decide +kernel)) (fun _ h9 => h9) rfl dX10_append_34 ?_
      refine lv_iload_n hx hb dX10_append_37 rfl (lv_at hl 0 rfl) ?_
      refine va_iast (i := (nI j)) hx hb hK hP hD hS 1 0 rfl rfl (vp_in_nI (by omega) (by decide)) dX10_append_38 (fun H locs hP hD hS => ?_)
      generalize hff12 : upd f (nI j).toNatClampNeg (((p0.toUInt32 >>> ((16 : Int32).toUInt32 &&& Int32.toUInt32 31)).toInt32) &&& 255) = f12 at hP hD
      have hP : va_P (dC, dI) vwCl [(h0, .inr (10, [.ref h1, .int (nI j), v2])), (h1, .inl (cI, 240, .inl f12))] H := hP
      have hD : va_D A [(h0, .inr (10, [.ref h1, .int (nI j), v2])), (h1, .inl (cI, 240, .inl f12))] := hD
      refine lv_aload_n hx hb dX10_append_39 rfl (lv_at hl 2 rfl) ?_
      refine lv_dup hx hb dX10_append_40 rfl ?_
      refine va_get (D := (dC, dI)) (ci := 10) (v := .int (nI j)) (C := RX10) (T := TX10) (N := 3) hx hb hts hinX10 hown hK hP 0 rfl rfl 1 (by decide) (hts (.fieldLink RX10 15 "DreamGuard$Tape" "length" "I") (by decide +kernel)) (fun _ h9 => h9) rfl dX10_append_41 ?_
      refine lv_iconst (v := 1) hx hb dX10_append_44 (by decide) ?_
      refine lv_iadd hx hb dX10_append_45 ?_
      refine lv_topi (fun k13 ek13 => ?_)
      obtain rfl : k13 = nI (j + 1) := ek13.trans (nI_1 _)
      refine va_put (D := (dC, dI)) (ci := 10) (v := .int (nI (j + 1))) (ty := .int) (C := RX10) (T := TX10) (N := 3) hx hb hts hinX10 tyX10 tyX10_ok nmX10 hown hK hP hD hS 0 rfl rfl 1 (by decide) (hts (.fieldLink RX10 15 "DreamGuard$Tape" "length" "I") (by decide +kernel)) (fun _ h9 => h9) rfl (by decide +kernel) rfl rfl (Nat.le_of_ble_eq_true rfl) dX10_append_46 (fun H locs hP hD hS => ?_)
      have hP : va_P (dC, dI) vwCl [(h0, .inr (10, [.ref h1, .int (nI (j + 1)), v2])), (h1, .inl (cI, 240, .inl f12))] H := hP
      have hD : va_D A [(h0, .inr (10, [.ref h1, .int (nI (j + 1)), v2])), (h1, .inl (cI, 240, .inl f12))] := hD
      refine lv_iinc (v := 8) (lv' := [(2, .int 8), (3, .int (((p0.toUInt32 >>> ((16 : Int32).toUInt32 &&& Int32.toUInt32 31)).toInt32) &&& 255)), (0, .ref h0), (1, .int p0)]) hx hb dX10_append_49 hl (k := 1) rfl (by decide) (by decide) rfl (fun ls hl => ?_)
      refine lv_goto (tgt := 3) hx hb dX10_append_52 (by decide) ?_
      refine lv_iload_n hx hb dX10_append_3 rfl (lv_at hl 0 rfl) ?_
      refine lv_if_lt (tgt := 55) hx hb dX10_append_4 (by decide) (fun c9 => absurd c9 (by decide)) (fun _ => ?_)
      refine lv_iload_n hx hb dX10_append_7 rfl (lv_at hl 3 rfl) ?_
      refine lv_iload_n hx hb dX10_append_8 rfl (lv_at hl 0 rfl) ?_
      refine lv_iushr (v := (p0.toUInt32 >>> ((8 : Int32).toUInt32 &&& Int32.toUInt32 31)).toInt32) hx hb dX10_append_9 rfl ?_
      refine lv_sipush (v := 255) hx hb dX10_append_10 (by decide) ?_
      refine lv_iand hx hb dX10_append_13 ?_
      refine lv_istore_n (lv' := [(3, .int (((p0.toUInt32 >>> ((8 : Int32).toUInt32 &&& Int32.toUInt32 31)).toInt32) &&& 255)), (2, .int 8), (0, .ref h0), (1, .int p0)]) hx hb dX10_append_14 rfl hl (by decide) rfl (fun ls hl => ?_)
      refine lv_iload_n hx hb dX10_append_15 rfl (lv_at hl 0 rfl) ?_
      refine lv_if_eq (tgt := 49) hx hb dX10_append_16 (by decide) (fun c14 => ?_) (fun c14 => ?_)
      · skip
        refine lv_iinc (v := 0) (lv' := [(2, .int 0), (3, .int (((p0.toUInt32 >>> ((8 : Int32).toUInt32 &&& Int32.toUInt32 31)).toInt32) &&& 255)), (0, .ref h0), (1, .int p0)]) hx hb dX10_append_49 hl (k := 1) rfl (by decide) (by decide) rfl (fun ls hl => ?_)
        refine lv_goto (tgt := 3) hx hb dX10_append_52 (by decide) ?_
        refine lv_iload_n hx hb dX10_append_3 rfl (lv_at hl 0 rfl) ?_
        refine lv_if_lt (tgt := 55) hx hb dX10_append_4 (by decide) (fun c9 => absurd c9 (by decide)) (fun _ => ?_)
        refine lv_iload_n hx hb dX10_append_7 rfl (lv_at hl 3 rfl) ?_
        refine lv_iload_n hx hb dX10_append_8 rfl (lv_at hl 0 rfl) ?_
        refine lv_iushr (v := (p0.toUInt32 >>> ((0 : Int32).toUInt32 &&& Int32.toUInt32 31)).toInt32) hx hb dX10_append_9 rfl ?_
        refine lv_sipush (v := 255) hx hb dX10_append_10 (by decide) ?_
        refine lv_iand hx hb dX10_append_13 ?_
        refine lv_istore_n (lv' := [(3, .int (((p0.toUInt32 >>> ((0 : Int32).toUInt32 &&& Int32.toUInt32 31)).toInt32) &&& 255)), (2, .int 0), (0, .ref h0), (1, .int p0)]) hx hb dX10_append_14 rfl hl (by decide) rfl (fun ls hl => ?_)
        refine lv_iload_n hx hb dX10_append_15 rfl (lv_at hl 0 rfl) ?_
        refine lv_if_eq (tgt := 49) hx hb dX10_append_16 (by decide) (fun c15 => ?_) (fun c15 => ?_)
        · skip
          refine lv_iinc (v := (-8)) (lv' := [(2, .int (-8)), (3, .int (((p0.toUInt32 >>> ((0 : Int32).toUInt32 &&& Int32.toUInt32 31)).toInt32) &&& 255)), (0, .ref h0), (1, .int p0)]) hx hb dX10_append_49 hl (k := 1) rfl (by decide) (by decide) rfl (fun ls hl => ?_)
          refine lv_goto (tgt := 3) hx hb dX10_append_52 (by decide) ?_
          refine lv_iload_n hx hb dX10_append_3 rfl (lv_at hl 0 rfl) ?_
          refine lv_if_lt (tgt := 55) hx hb dX10_append_4 (by decide) (fun _ => ?_) (fun c9 => absurd (by decide) c9)
          have hP9 := hP.sub (ws' := [(h0, .inr (10, [.ref h1, .int (nI (j + 1)), v2])), (h1, .inl (cI, 240, .inl f12))]) [0, 1] rfl
          have hD9 := hD.sub (ws' := [(h0, .inr (10, [.ref h1, .int (nI (j + 1)), v2])), (h1, .inl (cI, 240, .inl f12))]) [0, 1] (by decide) rfl
          exact W.vret hx hb hr (fun t ht hW => ⟨⟨(), rfl, trivial, ⟨(nI (j + 1)), f12, by rw [ht]; exact hP9, hD9, (by unfold zcnt; rw [if_pos c1, if_neg c2, if_pos c14, if_pos c15] <;> rfl)⟩⟩, hS.F ht⟩) hS.2.2 dX10_append_55
        · skip
          refine lv_aload_n hx hb dX10_append_19 rfl (lv_at hl 2 rfl) ?_
          refine va_get (D := (dC, dI)) (ci := 10) (v := .int (nI (j + 1))) (C := RX10) (T := TX10) (N := 3) hx hb hts hinX10 hown hK hP 0 rfl rfl 1 (by decide) (hts (.fieldLink RX10 15 "DreamGuard$Tape" "length" "I") (by decide +kernel)) (fun _ h9 => h9) rfl dX10_append_20 ?_
          refine lv_sipush (v := 240) hx hb dX10_append_23 (by decide) ?_
          refine lv_icmp_ge (tgt := 49) hx hb dX10_append_26 (by decide) (fun c9 => absurd c9 (zn240 (by omega))) (fun _ => ?_)
          refine lv_aload_n hx hb dX10_append_29 rfl (lv_at hl 2 rfl) ?_
          refine va_get (D := (dC, dI)) (ci := 10) (v := .ref h1) (C := RX10) (T := TX10) (N := 3) hx hb hts hinX10 hown hK hP 0 rfl rfl 0 (by decide) (hts (.fieldLink RX10 9 "DreamGuard$Tape" "signs" "[I") (by decide +kernel)) (fun _ h9 => h9) rfl dX10_append_30 ?_
          refine lv_aload_n hx hb dX10_append_33 rfl (lv_at hl 2 rfl) ?_
          refine va_get (D := (dC, dI)) (ci := 10) (v := .int (nI (j + 1))) (C := RX10) (T := TX10) (N := 3) hx hb hts hinX10 hown hK hP 0 rfl rfl 1 (by decide) (hts (.fieldLink RX10 15 "DreamGuard$Tape" "length" "I") (by decide +kernel)) (fun _ h9 => h9) rfl dX10_append_34 ?_
          refine lv_iload_n hx hb dX10_append_37 rfl (lv_at hl 0 rfl) ?_
          refine va_iast (i := (nI (j + 1))) hx hb hK hP hD hS 1 0 rfl rfl (vp_in_nI (by omega) (by decide)) dX10_append_38 (fun H locs hP hD hS => ?_)
          generalize hff16 : upd f12 (nI (j + 1)).toNatClampNeg (((p0.toUInt32 >>> ((0 : Int32).toUInt32 &&& Int32.toUInt32 31)).toInt32) &&& 255) = f16 at hP hD
          have hP : va_P (dC, dI) vwCl [(h0, .inr (10, [.ref h1, .int (nI (j + 1)), v2])), (h1, .inl (cI, 240, .inl f16))] H := hP
          have hD : va_D A [(h0, .inr (10, [.ref h1, .int (nI (j + 1)), v2])), (h1, .inl (cI, 240, .inl f16))] := hD
          refine lv_aload_n hx hb dX10_append_39 rfl (lv_at hl 2 rfl) ?_
          refine lv_dup hx hb dX10_append_40 rfl ?_
          refine va_get (D := (dC, dI)) (ci := 10) (v := .int (nI (j + 1))) (C := RX10) (T := TX10) (N := 3) hx hb hts hinX10 hown hK hP 0 rfl rfl 1 (by decide) (hts (.fieldLink RX10 15 "DreamGuard$Tape" "length" "I") (by decide +kernel)) (fun _ h9 => h9) rfl dX10_append_41 ?_
          refine lv_iconst (v := 1) hx hb dX10_append_44 (by decide) ?_
          refine lv_iadd hx hb dX10_append_45 ?_
          refine lv_topi (fun k17 ek17 => ?_)
          obtain rfl : k17 = nI (j + 1 + 1) := ek17.trans (nI_1 _)
          refine va_put (D := (dC, dI)) (ci := 10) (v := .int (nI (j + 1 + 1))) (ty := .int) (C := RX10) (T := TX10) (N := 3) hx hb hts hinX10 tyX10 tyX10_ok nmX10 hown hK hP hD hS 0 rfl rfl 1 (by decide) (hts (.fieldLink RX10 15 "DreamGuard$Tape" "length" "I") (by decide +kernel)) (fun _ h9 => h9) rfl (by decide +kernel) rfl rfl (Nat.le_of_ble_eq_true rfl) dX10_append_46 (fun H locs hP hD hS => ?_)
          have hP : va_P (dC, dI) vwCl [(h0, .inr (10, [.ref h1, .int (nI (j + 1 + 1)), v2])), (h1, .inl (cI, 240, .inl f16))] H := hP
          have hD : va_D A [(h0, .inr (10, [.ref h1, .int (nI (j + 1 + 1)), v2])), (h1, .inl (cI, 240, .inl f16))] := hD
          refine lv_iinc (v := (-8)) (lv' := [(2, .int (-8)), (3, .int (((p0.toUInt32 >>> ((0 : Int32).toUInt32 &&& Int32.toUInt32 31)).toInt32) &&& 255)), (0, .ref h0), (1, .int p0)]) hx hb dX10_append_49 hl (k := 1) rfl (by decide) (by decide) rfl (fun ls hl => ?_)
          refine lv_goto (tgt := 3) hx hb dX10_append_52 (by decide) ?_
          refine lv_iload_n hx hb dX10_append_3 rfl (lv_at hl 0 rfl) ?_
          refine lv_if_lt (tgt := 55) hx hb dX10_append_4 (by decide) (fun _ => ?_) (fun c9 => absurd (by decide) c9)
          have hP9 := hP.sub (ws' := [(h0, .inr (10, [.ref h1, .int (nI (j + 1 + 1)), v2])), (h1, .inl (cI, 240, .inl f16))]) [0, 1] rfl
          have hD9 := hD.sub (ws' := [(h0, .inr (10, [.ref h1, .int (nI (j + 1 + 1)), v2])), (h1, .inl (cI, 240, .inl f16))]) [0, 1] (by decide) rfl
          exact W.vret hx hb hr (fun t ht hW => ⟨⟨(), rfl, trivial, ⟨(nI (j + 1 + 1)), f16, by rw [ht]; exact hP9, hD9, (by unfold zcnt; rw [if_pos c1, if_neg c2, if_pos c14, if_neg c15] <;> rfl)⟩⟩, hS.F ht⟩) hS.2.2 dX10_append_55
      · skip
        refine lv_aload_n hx hb dX10_append_19 rfl (lv_at hl 2 rfl) ?_
        refine va_get (D := (dC, dI)) (ci := 10) (v := .int (nI (j + 1))) (C := RX10) (T := TX10) (N := 3) hx hb hts hinX10 hown hK hP 0 rfl rfl 1 (by decide) (hts (.fieldLink RX10 15 "DreamGuard$Tape" "length" "I") (by decide +kernel)) (fun _ h9 => h9) rfl dX10_append_20 ?_
        refine lv_sipush (v := 240) hx hb dX10_append_23 (by decide) ?_
        refine lv_icmp_ge (tgt := 49) hx hb dX10_append_26 (by decide) (fun c9 => absurd c9 (zn240 (by omega))) (fun _ => ?_)
        refine lv_aload_n hx hb dX10_append_29 rfl (lv_at hl 2 rfl) ?_
        refine va_get (D := (dC, dI)) (ci := 10) (v := .ref h1) (C := RX10) (T := TX10) (N := 3) hx hb hts hinX10 hown hK hP 0 rfl rfl 0 (by decide) (hts (.fieldLink RX10 9 "DreamGuard$Tape" "signs" "[I") (by decide +kernel)) (fun _ h9 => h9) rfl dX10_append_30 ?_
        refine lv_aload_n hx hb dX10_append_33 rfl (lv_at hl 2 rfl) ?_
        refine va_get (D := (dC, dI)) (ci := 10) (v := .int (nI (j + 1))) (C := RX10) (T := TX10) (N := 3) hx hb hts hinX10 hown hK hP 0 rfl rfl 1 (by decide) (hts (.fieldLink RX10 15 "DreamGuard$Tape" "length" "I") (by decide +kernel)) (fun _ h9 => h9) rfl dX10_append_34 ?_
        refine lv_iload_n hx hb dX10_append_37 rfl (lv_at hl 0 rfl) ?_
        refine va_iast (i := (nI (j + 1))) hx hb hK hP hD hS 1 0 rfl rfl (vp_in_nI (by omega) (by decide)) dX10_append_38 (fun H locs hP hD hS => ?_)
        generalize hff18 : upd f12 (nI (j + 1)).toNatClampNeg (((p0.toUInt32 >>> ((8 : Int32).toUInt32 &&& Int32.toUInt32 31)).toInt32) &&& 255) = f18 at hP hD
        have hP : va_P (dC, dI) vwCl [(h0, .inr (10, [.ref h1, .int (nI (j + 1)), v2])), (h1, .inl (cI, 240, .inl f18))] H := hP
        have hD : va_D A [(h0, .inr (10, [.ref h1, .int (nI (j + 1)), v2])), (h1, .inl (cI, 240, .inl f18))] := hD
        refine lv_aload_n hx hb dX10_append_39 rfl (lv_at hl 2 rfl) ?_
        refine lv_dup hx hb dX10_append_40 rfl ?_
        refine va_get (D := (dC, dI)) (ci := 10) (v := .int (nI (j + 1))) (C := RX10) (T := TX10) (N := 3) hx hb hts hinX10 hown hK hP 0 rfl rfl 1 (by decide) (hts (.fieldLink RX10 15 "DreamGuard$Tape" "length" "I") (by decide +kernel)) (fun _ h9 => h9) rfl dX10_append_41 ?_
        refine lv_iconst (v := 1) hx hb dX10_append_44 (by decide) ?_
        refine lv_iadd hx hb dX10_append_45 ?_
        refine lv_topi (fun k19 ek19 => ?_)
        obtain rfl : k19 = nI (j + 1 + 1) := ek19.trans (nI_1 _)
        refine va_put (D := (dC, dI)) (ci := 10) (v := .int (nI (j + 1 + 1))) (ty := .int) (C := RX10) (T := TX10) (N := 3) hx hb hts hinX10 tyX10 tyX10_ok nmX10 hown hK hP hD hS 0 rfl rfl 1 (by decide) (hts (.fieldLink RX10 15 "DreamGuard$Tape" "length" "I") (by decide +kernel)) (fun _ h9 => h9) rfl (by decide +kernel) rfl rfl (Nat.le_of_ble_eq_true rfl) dX10_append_46 (fun H locs hP hD hS => ?_)
        have hP : va_P (dC, dI) vwCl [(h0, .inr (10, [.ref h1, .int (nI (j + 1 + 1)), v2])), (h1, .inl (cI, 240, .inl f18))] H := hP
        have hD : va_D A [(h0, .inr (10, [.ref h1, .int (nI (j + 1 + 1)), v2])), (h1, .inl (cI, 240, .inl f18))] := hD
        refine lv_iinc (v := 0) (lv' := [(2, .int 0), (3, .int (((p0.toUInt32 >>> ((8 : Int32).toUInt32 &&& Int32.toUInt32 31)).toInt32) &&& 255)), (0, .ref h0), (1, .int p0)]) hx hb dX10_append_49 hl (k := 1) rfl (by decide) (by decide) rfl (fun ls hl => ?_)
        refine lv_goto (tgt := 3) hx hb dX10_append_52 (by decide) ?_
        refine lv_iload_n hx hb dX10_append_3 rfl (lv_at hl 0 rfl) ?_
        refine lv_if_lt (tgt := 55) hx hb dX10_append_4 (by decide) (fun c9 => absurd c9 (by decide)) (fun _ => ?_)
        refine lv_iload_n hx hb dX10_append_7 rfl (lv_at hl 3 rfl) ?_
        refine lv_iload_n hx hb dX10_append_8 rfl (lv_at hl 0 rfl) ?_
        refine lv_iushr (v := (p0.toUInt32 >>> ((0 : Int32).toUInt32 &&& Int32.toUInt32 31)).toInt32) hx hb dX10_append_9 rfl ?_
        refine lv_sipush (v := 255) hx hb dX10_append_10 (by decide) ?_
        refine lv_iand hx hb dX10_append_13 ?_
        refine lv_istore_n (lv' := [(3, .int (((p0.toUInt32 >>> ((0 : Int32).toUInt32 &&& Int32.toUInt32 31)).toInt32) &&& 255)), (2, .int 0), (0, .ref h0), (1, .int p0)]) hx hb dX10_append_14 rfl hl (by decide) rfl (fun ls hl => ?_)
        refine lv_iload_n hx hb dX10_append_15 rfl (lv_at hl 0 rfl) ?_
        refine lv_if_eq (tgt := 49) hx hb dX10_append_16 (by decide) (fun c20 => ?_) (fun c20 => ?_)
        · skip
          refine lv_iinc (v := (-8)) (lv' := [(2, .int (-8)), (3, .int (((p0.toUInt32 >>> ((0 : Int32).toUInt32 &&& Int32.toUInt32 31)).toInt32) &&& 255)), (0, .ref h0), (1, .int p0)]) hx hb dX10_append_49 hl (k := 1) rfl (by decide) (by decide) rfl (fun ls hl => ?_)
          refine lv_goto (tgt := 3) hx hb dX10_append_52 (by decide) ?_
          refine lv_iload_n hx hb dX10_append_3 rfl (lv_at hl 0 rfl) ?_
          refine lv_if_lt (tgt := 55) hx hb dX10_append_4 (by decide) (fun _ => ?_) (fun c9 => absurd (by decide) c9)
          have hP9 := hP.sub (ws' := [(h0, .inr (10, [.ref h1, .int (nI (j + 1 + 1)), v2])), (h1, .inl (cI, 240, .inl f18))]) [0, 1] rfl
          have hD9 := hD.sub (ws' := [(h0, .inr (10, [.ref h1, .int (nI (j + 1 + 1)), v2])), (h1, .inl (cI, 240, .inl f18))]) [0, 1] (by decide) rfl
          exact W.vret hx hb hr (fun t ht hW => ⟨⟨(), rfl, trivial, ⟨(nI (j + 1 + 1)), f18, by rw [ht]; exact hP9, hD9, (by unfold zcnt; rw [if_pos c1, if_neg c2, if_neg c14, if_pos c20] <;> rfl)⟩⟩, hS.F ht⟩) hS.2.2 dX10_append_55
        · skip
          refine lv_aload_n hx hb dX10_append_19 rfl (lv_at hl 2 rfl) ?_
          refine va_get (D := (dC, dI)) (ci := 10) (v := .int (nI (j + 1 + 1))) (C := RX10) (T := TX10) (N := 3) hx hb hts hinX10 hown hK hP 0 rfl rfl 1 (by decide) (hts (.fieldLink RX10 15 "DreamGuard$Tape" "length" "I") (by decide +kernel)) (fun _ h9 => h9) rfl dX10_append_20 ?_
          refine lv_sipush (v := 240) hx hb dX10_append_23 (by decide) ?_
          refine lv_icmp_ge (tgt := 49) hx hb dX10_append_26 (by decide) (fun c9 => absurd c9 (zn240 (by omega))) (fun _ => ?_)
          refine lv_aload_n hx hb dX10_append_29 rfl (lv_at hl 2 rfl) ?_
          refine va_get (D := (dC, dI)) (ci := 10) (v := .ref h1) (C := RX10) (T := TX10) (N := 3) hx hb hts hinX10 hown hK hP 0 rfl rfl 0 (by decide) (hts (.fieldLink RX10 9 "DreamGuard$Tape" "signs" "[I") (by decide +kernel)) (fun _ h9 => h9) rfl dX10_append_30 ?_
          refine lv_aload_n hx hb dX10_append_33 rfl (lv_at hl 2 rfl) ?_
          refine va_get (D := (dC, dI)) (ci := 10) (v := .int (nI (j + 1 + 1))) (C := RX10) (T := TX10) (N := 3) hx hb hts hinX10 hown hK hP 0 rfl rfl 1 (by decide) (hts (.fieldLink RX10 15 "DreamGuard$Tape" "length" "I") (by decide +kernel)) (fun _ h9 => h9) rfl dX10_append_34 ?_
          refine lv_iload_n hx hb dX10_append_37 rfl (lv_at hl 0 rfl) ?_
          refine va_iast (i := (nI (j + 1 + 1))) hx hb hK hP hD hS 1 0 rfl rfl (vp_in_nI (by omega) (by decide)) dX10_append_38 (fun H locs hP hD hS => ?_)
          generalize hff21 : upd f18 (nI (j + 1 + 1)).toNatClampNeg (((p0.toUInt32 >>> ((0 : Int32).toUInt32 &&& Int32.toUInt32 31)).toInt32) &&& 255) = f21 at hP hD
          have hP : va_P (dC, dI) vwCl [(h0, .inr (10, [.ref h1, .int (nI (j + 1 + 1)), v2])), (h1, .inl (cI, 240, .inl f21))] H := hP
          have hD : va_D A [(h0, .inr (10, [.ref h1, .int (nI (j + 1 + 1)), v2])), (h1, .inl (cI, 240, .inl f21))] := hD
          refine lv_aload_n hx hb dX10_append_39 rfl (lv_at hl 2 rfl) ?_
          refine lv_dup hx hb dX10_append_40 rfl ?_
          refine va_get (D := (dC, dI)) (ci := 10) (v := .int (nI (j + 1 + 1))) (C := RX10) (T := TX10) (N := 3) hx hb hts hinX10 hown hK hP 0 rfl rfl 1 (by decide) (hts (.fieldLink RX10 15 "DreamGuard$Tape" "length" "I") (by decide +kernel)) (fun _ h9 => h9) rfl dX10_append_41 ?_
          refine lv_iconst (v := 1) hx hb dX10_append_44 (by decide) ?_
          refine lv_iadd hx hb dX10_append_45 ?_
          refine lv_topi (fun k22 ek22 => ?_)
          obtain rfl : k22 = nI (j + 1 + 1 + 1) := ek22.trans (nI_1 _)
          refine va_put (D := (dC, dI)) (ci := 10) (v := .int (nI (j + 1 + 1 + 1))) (ty := .int) (C := RX10) (T := TX10) (N := 3) hx hb hts hinX10 tyX10 tyX10_ok nmX10 hown hK hP hD hS 0 rfl rfl 1 (by decide) (hts (.fieldLink RX10 15 "DreamGuard$Tape" "length" "I") (by decide +kernel)) (fun _ h9 => h9) rfl (by decide +kernel) rfl rfl (Nat.le_of_ble_eq_true rfl) dX10_append_46 (fun H locs hP hD hS => ?_)
          have hP : va_P (dC, dI) vwCl [(h0, .inr (10, [.ref h1, .int (nI (j + 1 + 1 + 1)), v2])), (h1, .inl (cI, 240, .inl f21))] H := hP
          have hD : va_D A [(h0, .inr (10, [.ref h1, .int (nI (j + 1 + 1 + 1)), v2])), (h1, .inl (cI, 240, .inl f21))] := hD
          refine lv_iinc (v := (-8)) (lv' := [(2, .int (-8)), (3, .int (((p0.toUInt32 >>> ((0 : Int32).toUInt32 &&& Int32.toUInt32 31)).toInt32) &&& 255)), (0, .ref h0), (1, .int p0)]) hx hb dX10_append_49 hl (k := 1) rfl (by decide) (by decide) rfl (fun ls hl => ?_)
          refine lv_goto (tgt := 3) hx hb dX10_append_52 (by decide) ?_
          refine lv_iload_n hx hb dX10_append_3 rfl (lv_at hl 0 rfl) ?_
          refine lv_if_lt (tgt := 55) hx hb dX10_append_4 (by decide) (fun _ => ?_) (fun c9 => absurd (by decide) c9)
          have hP9 := hP.sub (ws' := [(h0, .inr (10, [.ref h1, .int (nI (j + 1 + 1 + 1)), v2])), (h1, .inl (cI, 240, .inl f21))]) [0, 1] rfl
          have hD9 := hD.sub (ws' := [(h0, .inr (10, [.ref h1, .int (nI (j + 1 + 1 + 1)), v2])), (h1, .inl (cI, 240, .inl f21))]) [0, 1] (by decide) rfl
          exact W.vret hx hb hr (fun t ht hW => ⟨⟨(), rfl, trivial, ⟨(nI (j + 1 + 1 + 1)), f21, by rw [ht]; exact hP9, hD9, (by unfold zcnt; rw [if_pos c1, if_neg c2, if_neg c14, if_neg c20] <;> rfl)⟩⟩, hS.F ht⟩) hS.2.2 dX10_append_55
  · skip
    refine lv_aload_n hx hb dX10_append_19 rfl (lv_at hl 2 rfl) ?_
    refine va_get (D := (dC, dI)) (ci := 10) (v := .int (nI j)) (C := RX10) (T := TX10) (N := 3) hx hb hts hinX10 hown hK hP 0 rfl rfl 1 (by decide) (hts (.fieldLink RX10 15 "DreamGuard$Tape" "length" "I") (by decide +kernel)) (fun _ h9 => h9) rfl dX10_append_20 ?_
    refine lv_sipush (v := 240) hx hb dX10_append_23 (by decide) ?_
    refine lv_icmp_ge (tgt := 49) hx hb dX10_append_26 (by decide) (fun c9 => absurd c9 (zn240 (by omega))) (fun _ => ?_)
    refine lv_aload_n hx hb dX10_append_29 rfl (lv_at hl 2 rfl) ?_
    refine va_get (D := (dC, dI)) (ci := 10) (v := .ref h1) (C := RX10) (T := TX10) (N := 3) hx hb hts hinX10 hown hK hP 0 rfl rfl 0 (by decide) (hts (.fieldLink RX10 9 "DreamGuard$Tape" "signs" "[I") (by decide +kernel)) (fun _ h9 => h9) rfl dX10_append_30 ?_
    refine lv_aload_n hx hb dX10_append_33 rfl (lv_at hl 2 rfl) ?_
    refine va_get (D := (dC, dI)) (ci := 10) (v := .int (nI j)) (C := RX10) (T := TX10) (N := 3) hx hb hts hinX10 hown hK hP 0 rfl rfl 1 (by decide) (hts (.fieldLink RX10 15 "DreamGuard$Tape" "length" "I") (by decide +kernel)) (fun _ h9 => h9) rfl dX10_append_34 ?_
    refine lv_iload_n hx hb dX10_append_37 rfl (lv_at hl 0 rfl) ?_
    refine va_iast (i := (nI j)) hx hb hK hP hD hS 1 0 rfl rfl (vp_in_nI (by omega) (by decide)) dX10_append_38 (fun H locs hP hD hS => ?_)
    generalize hff23 : upd f (nI j).toNatClampNeg (((p0.toUInt32 >>> ((24 : Int32).toUInt32 &&& Int32.toUInt32 31)).toInt32) &&& 255) = f23 at hP hD
    have hP : va_P (dC, dI) vwCl [(h0, .inr (10, [.ref h1, .int (nI j), v2])), (h1, .inl (cI, 240, .inl f23))] H := hP
    have hD : va_D A [(h0, .inr (10, [.ref h1, .int (nI j), v2])), (h1, .inl (cI, 240, .inl f23))] := hD
    refine lv_aload_n hx hb dX10_append_39 rfl (lv_at hl 2 rfl) ?_
    refine lv_dup hx hb dX10_append_40 rfl ?_
    refine va_get (D := (dC, dI)) (ci := 10) (v := .int (nI j)) (C := RX10) (T := TX10) (N := 3) hx hb hts hinX10 hown hK hP 0 rfl rfl 1 (by decide) (hts (.fieldLink RX10 15 "DreamGuard$Tape" "length" "I") (by decide +kernel)) (fun _ h9 => h9) rfl dX10_append_41 ?_
    refine lv_iconst (v := 1) hx hb dX10_append_44 (by decide) ?_
    refine lv_iadd hx hb dX10_append_45 ?_
    refine lv_topi (fun k24 ek24 => ?_)
    obtain rfl : k24 = nI (j + 1) := ek24.trans (nI_1 _)
    refine va_put (D := (dC, dI)) (ci := 10) (v := .int (nI (j + 1))) (ty := .int) (C := RX10) (T := TX10) (N := 3) hx hb hts hinX10 tyX10 tyX10_ok nmX10 hown hK hP hD hS 0 rfl rfl 1 (by decide) (hts (.fieldLink RX10 15 "DreamGuard$Tape" "length" "I") (by decide +kernel)) (fun _ h9 => h9) rfl (by decide +kernel) rfl rfl (Nat.le_of_ble_eq_true rfl) dX10_append_46 (fun H locs hP hD hS => ?_)
    have hP : va_P (dC, dI) vwCl [(h0, .inr (10, [.ref h1, .int (nI (j + 1)), v2])), (h1, .inl (cI, 240, .inl f23))] H := hP
    have hD : va_D A [(h0, .inr (10, [.ref h1, .int (nI (j + 1)), v2])), (h1, .inl (cI, 240, .inl f23))] := hD
    refine lv_iinc (v := 16) (lv' := [(2, .int 16), (3, .int (((p0.toUInt32 >>> ((24 : Int32).toUInt32 &&& Int32.toUInt32 31)).toInt32) &&& 255)), (0, .ref h0), (1, .int p0)]) hx hb dX10_append_49 hl (k := 1) rfl (by decide) (by decide) rfl (fun ls hl => ?_)
    refine lv_goto (tgt := 3) hx hb dX10_append_52 (by decide) ?_
    refine lv_iload_n hx hb dX10_append_3 rfl (lv_at hl 0 rfl) ?_
    refine lv_if_lt (tgt := 55) hx hb dX10_append_4 (by decide) (fun c9 => absurd c9 (by decide)) (fun _ => ?_)
    refine lv_iload_n hx hb dX10_append_7 rfl (lv_at hl 3 rfl) ?_
    refine lv_iload_n hx hb dX10_append_8 rfl (lv_at hl 0 rfl) ?_
    refine lv_iushr (v := (p0.toUInt32 >>> ((16 : Int32).toUInt32 &&& Int32.toUInt32 31)).toInt32) hx hb dX10_append_9 rfl ?_
    refine lv_sipush (v := 255) hx hb dX10_append_10 (by decide) ?_
    refine lv_iand hx hb dX10_append_13 ?_
    refine lv_istore_n (lv' := [(3, .int (((p0.toUInt32 >>> ((16 : Int32).toUInt32 &&& Int32.toUInt32 31)).toInt32) &&& 255)), (2, .int 16), (0, .ref h0), (1, .int p0)]) hx hb dX10_append_14 rfl hl (by decide) rfl (fun ls hl => ?_)
    refine lv_iload_n hx hb dX10_append_15 rfl (lv_at hl 0 rfl) ?_
    refine lv_if_eq (tgt := 49) hx hb dX10_append_16 (by decide) (fun c25 => ?_) (fun c25 => ?_)
    · skip
      refine lv_iinc (v := 8) (lv' := [(2, .int 8), (3, .int (((p0.toUInt32 >>> ((16 : Int32).toUInt32 &&& Int32.toUInt32 31)).toInt32) &&& 255)), (0, .ref h0), (1, .int p0)]) hx hb dX10_append_49 hl (k := 1) rfl (by decide) (by decide) rfl (fun ls hl => ?_)
      refine lv_goto (tgt := 3) hx hb dX10_append_52 (by decide) ?_
      refine lv_iload_n hx hb dX10_append_3 rfl (lv_at hl 0 rfl) ?_
      refine lv_if_lt (tgt := 55) hx hb dX10_append_4 (by decide) (fun c9 => absurd c9 (by decide)) (fun _ => ?_)
      refine lv_iload_n hx hb dX10_append_7 rfl (lv_at hl 3 rfl) ?_
      refine lv_iload_n hx hb dX10_append_8 rfl (lv_at hl 0 rfl) ?_
      refine lv_iushr (v := (p0.toUInt32 >>> ((8 : Int32).toUInt32 &&& Int32.toUInt32 31)).toInt32) hx hb dX10_append_9 rfl ?_
      refine lv_sipush (v := 255) hx hb dX10_append_10 (by decide) ?_
      refine lv_iand hx hb dX10_append_13 ?_
      refine lv_istore_n (lv' := [(3, .int (((p0.toUInt32 >>> ((8 : Int32).toUInt32 &&& Int32.toUInt32 31)).toInt32) &&& 255)), (2, .int 8), (0, .ref h0), (1, .int p0)]) hx hb dX10_append_14 rfl hl (by decide) rfl (fun ls hl => ?_)
      refine lv_iload_n hx hb dX10_append_15 rfl (lv_at hl 0 rfl) ?_
      refine lv_if_eq (tgt := 49) hx hb dX10_append_16 (by decide) (fun c26 => ?_) (fun c26 => ?_)
      · skip
        refine lv_iinc (v := 0) (lv' := [(2, .int 0), (3, .int (((p0.toUInt32 >>> ((8 : Int32).toUInt32 &&& Int32.toUInt32 31)).toInt32) &&& 255)), (0, .ref h0), (1, .int p0)]) hx hb dX10_append_49 hl (k := 1) rfl (by decide) (by decide) rfl (fun ls hl => ?_)
        refine lv_goto (tgt := 3) hx hb dX10_append_52 (by decide) ?_
        refine lv_iload_n hx hb dX10_append_3 rfl (lv_at hl 0 rfl) ?_
        refine lv_if_lt (tgt := 55) hx hb dX10_append_4 (by decide) (fun c9 => absurd c9 (by decide)) (fun _ => ?_)
        refine lv_iload_n hx hb dX10_append_7 rfl (lv_at hl 3 rfl) ?_
        refine lv_iload_n hx hb dX10_append_8 rfl (lv_at hl 0 rfl) ?_
        refine lv_iushr (v := (p0.toUInt32 >>> ((0 : Int32).toUInt32 &&& Int32.toUInt32 31)).toInt32) hx hb dX10_append_9 rfl ?_
        refine lv_sipush (v := 255) hx hb dX10_append_10 (by decide) ?_
        refine lv_iand hx hb dX10_append_13 ?_
        refine lv_istore_n (lv' := [(3, .int (((p0.toUInt32 >>> ((0 : Int32).toUInt32 &&& Int32.toUInt32 31)).toInt32) &&& 255)), (2, .int 0), (0, .ref h0), (1, .int p0)]) hx hb dX10_append_14 rfl hl (by decide) rfl (fun ls hl => ?_)
        refine lv_iload_n hx hb dX10_append_15 rfl (lv_at hl 0 rfl) ?_
        refine lv_if_eq (tgt := 49) hx hb dX10_append_16 (by decide) (fun c27 => ?_) (fun c27 => ?_)
        · skip
          refine lv_iinc (v := (-8)) (lv' := [(2, .int (-8)), (3, .int (((p0.toUInt32 >>> ((0 : Int32).toUInt32 &&& Int32.toUInt32 31)).toInt32) &&& 255)), (0, .ref h0), (1, .int p0)]) hx hb dX10_append_49 hl (k := 1) rfl (by decide) (by decide) rfl (fun ls hl => ?_)
          refine lv_goto (tgt := 3) hx hb dX10_append_52 (by decide) ?_
          refine lv_iload_n hx hb dX10_append_3 rfl (lv_at hl 0 rfl) ?_
          refine lv_if_lt (tgt := 55) hx hb dX10_append_4 (by decide) (fun _ => ?_) (fun c9 => absurd (by decide) c9)
          have hP9 := hP.sub (ws' := [(h0, .inr (10, [.ref h1, .int (nI (j + 1)), v2])), (h1, .inl (cI, 240, .inl f23))]) [0, 1] rfl
          have hD9 := hD.sub (ws' := [(h0, .inr (10, [.ref h1, .int (nI (j + 1)), v2])), (h1, .inl (cI, 240, .inl f23))]) [0, 1] (by decide) rfl
          exact W.vret hx hb hr (fun t ht hW => ⟨⟨(), rfl, trivial, ⟨(nI (j + 1)), f23, by rw [ht]; exact hP9, hD9, (by unfold zcnt; rw [if_neg c1, if_pos c25, if_pos c26, if_pos c27] <;> rfl)⟩⟩, hS.F ht⟩) hS.2.2 dX10_append_55
        · skip
          refine lv_aload_n hx hb dX10_append_19 rfl (lv_at hl 2 rfl) ?_
          refine va_get (D := (dC, dI)) (ci := 10) (v := .int (nI (j + 1))) (C := RX10) (T := TX10) (N := 3) hx hb hts hinX10 hown hK hP 0 rfl rfl 1 (by decide) (hts (.fieldLink RX10 15 "DreamGuard$Tape" "length" "I") (by decide +kernel)) (fun _ h9 => h9) rfl dX10_append_20 ?_
          refine lv_sipush (v := 240) hx hb dX10_append_23 (by decide) ?_
          refine lv_icmp_ge (tgt := 49) hx hb dX10_append_26 (by decide) (fun c9 => absurd c9 (zn240 (by omega))) (fun _ => ?_)
          refine lv_aload_n hx hb dX10_append_29 rfl (lv_at hl 2 rfl) ?_
          refine va_get (D := (dC, dI)) (ci := 10) (v := .ref h1) (C := RX10) (T := TX10) (N := 3) hx hb hts hinX10 hown hK hP 0 rfl rfl 0 (by decide) (hts (.fieldLink RX10 9 "DreamGuard$Tape" "signs" "[I") (by decide +kernel)) (fun _ h9 => h9) rfl dX10_append_30 ?_
          refine lv_aload_n hx hb dX10_append_33 rfl (lv_at hl 2 rfl) ?_
          refine va_get (D := (dC, dI)) (ci := 10) (v := .int (nI (j + 1))) (C := RX10) (T := TX10) (N := 3) hx hb hts hinX10 hown hK hP 0 rfl rfl 1 (by decide) (hts (.fieldLink RX10 15 "DreamGuard$Tape" "length" "I") (by decide +kernel)) (fun _ h9 => h9) rfl dX10_append_34 ?_
          refine lv_iload_n hx hb dX10_append_37 rfl (lv_at hl 0 rfl) ?_
          refine va_iast (i := (nI (j + 1))) hx hb hK hP hD hS 1 0 rfl rfl (vp_in_nI (by omega) (by decide)) dX10_append_38 (fun H locs hP hD hS => ?_)
          generalize hff28 : upd f23 (nI (j + 1)).toNatClampNeg (((p0.toUInt32 >>> ((0 : Int32).toUInt32 &&& Int32.toUInt32 31)).toInt32) &&& 255) = f28 at hP hD
          have hP : va_P (dC, dI) vwCl [(h0, .inr (10, [.ref h1, .int (nI (j + 1)), v2])), (h1, .inl (cI, 240, .inl f28))] H := hP
          have hD : va_D A [(h0, .inr (10, [.ref h1, .int (nI (j + 1)), v2])), (h1, .inl (cI, 240, .inl f28))] := hD
          refine lv_aload_n hx hb dX10_append_39 rfl (lv_at hl 2 rfl) ?_
          refine lv_dup hx hb dX10_append_40 rfl ?_
          refine va_get (D := (dC, dI)) (ci := 10) (v := .int (nI (j + 1))) (C := RX10) (T := TX10) (N := 3) hx hb hts hinX10 hown hK hP 0 rfl rfl 1 (by decide) (hts (.fieldLink RX10 15 "DreamGuard$Tape" "length" "I") (by decide +kernel)) (fun _ h9 => h9) rfl dX10_append_41 ?_
          refine lv_iconst (v := 1) hx hb dX10_append_44 (by decide) ?_
          refine lv_iadd hx hb dX10_append_45 ?_
          refine lv_topi (fun k29 ek29 => ?_)
          obtain rfl : k29 = nI (j + 1 + 1) := ek29.trans (nI_1 _)
          refine va_put (D := (dC, dI)) (ci := 10) (v := .int (nI (j + 1 + 1))) (ty := .int) (C := RX10) (T := TX10) (N := 3) hx hb hts hinX10 tyX10 tyX10_ok nmX10 hown hK hP hD hS 0 rfl rfl 1 (by decide) (hts (.fieldLink RX10 15 "DreamGuard$Tape" "length" "I") (by decide +kernel)) (fun _ h9 => h9) rfl (by decide +kernel) rfl rfl (Nat.le_of_ble_eq_true rfl) dX10_append_46 (fun H locs hP hD hS => ?_)
          have hP : va_P (dC, dI) vwCl [(h0, .inr (10, [.ref h1, .int (nI (j + 1 + 1)), v2])), (h1, .inl (cI, 240, .inl f28))] H := hP
          have hD : va_D A [(h0, .inr (10, [.ref h1, .int (nI (j + 1 + 1)), v2])), (h1, .inl (cI, 240, .inl f28))] := hD
          refine lv_iinc (v := (-8)) (lv' := [(2, .int (-8)), (3, .int (((p0.toUInt32 >>> ((0 : Int32).toUInt32 &&& Int32.toUInt32 31)).toInt32) &&& 255)), (0, .ref h0), (1, .int p0)]) hx hb dX10_append_49 hl (k := 1) rfl (by decide) (by decide) rfl (fun ls hl => ?_)
          refine lv_goto (tgt := 3) hx hb dX10_append_52 (by decide) ?_
          refine lv_iload_n hx hb dX10_append_3 rfl (lv_at hl 0 rfl) ?_
          refine lv_if_lt (tgt := 55) hx hb dX10_append_4 (by decide) (fun _ => ?_) (fun c9 => absurd (by decide) c9)
          have hP9 := hP.sub (ws' := [(h0, .inr (10, [.ref h1, .int (nI (j + 1 + 1)), v2])), (h1, .inl (cI, 240, .inl f28))]) [0, 1] rfl
          have hD9 := hD.sub (ws' := [(h0, .inr (10, [.ref h1, .int (nI (j + 1 + 1)), v2])), (h1, .inl (cI, 240, .inl f28))]) [0, 1] (by decide) rfl
          exact W.vret hx hb hr (fun t ht hW => ⟨⟨(), rfl, trivial, ⟨(nI (j + 1 + 1)), f28, by rw [ht]; exact hP9, hD9, (by unfold zcnt; rw [if_neg c1, if_pos c25, if_pos c26, if_neg c27] <;> rfl)⟩⟩, hS.F ht⟩) hS.2.2 dX10_append_55
      · skip
        refine lv_aload_n hx hb dX10_append_19 rfl (lv_at hl 2 rfl) ?_
        refine va_get (D := (dC, dI)) (ci := 10) (v := .int (nI (j + 1))) (C := RX10) (T := TX10) (N := 3) hx hb hts hinX10 hown hK hP 0 rfl rfl 1 (by decide) (hts (.fieldLink RX10 15 "DreamGuard$Tape" "length" "I") (by decide +kernel)) (fun _ h9 => h9) rfl dX10_append_20 ?_
        refine lv_sipush (v := 240) hx hb dX10_append_23 (by decide) ?_
        refine lv_icmp_ge (tgt := 49) hx hb dX10_append_26 (by decide) (fun c9 => absurd c9 (zn240 (by omega))) (fun _ => ?_)
        refine lv_aload_n hx hb dX10_append_29 rfl (lv_at hl 2 rfl) ?_
        refine va_get (D := (dC, dI)) (ci := 10) (v := .ref h1) (C := RX10) (T := TX10) (N := 3) hx hb hts hinX10 hown hK hP 0 rfl rfl 0 (by decide) (hts (.fieldLink RX10 9 "DreamGuard$Tape" "signs" "[I") (by decide +kernel)) (fun _ h9 => h9) rfl dX10_append_30 ?_
        refine lv_aload_n hx hb dX10_append_33 rfl (lv_at hl 2 rfl) ?_
        refine va_get (D := (dC, dI)) (ci := 10) (v := .int (nI (j + 1))) (C := RX10) (T := TX10) (N := 3) hx hb hts hinX10 hown hK hP 0 rfl rfl 1 (by decide) (hts (.fieldLink RX10 15 "DreamGuard$Tape" "length" "I") (by decide +kernel)) (fun _ h9 => h9) rfl dX10_append_34 ?_
        refine lv_iload_n hx hb dX10_append_37 rfl (lv_at hl 0 rfl) ?_
        refine va_iast (i := (nI (j + 1))) hx hb hK hP hD hS 1 0 rfl rfl (vp_in_nI (by omega) (by decide)) dX10_append_38 (fun H locs hP hD hS => ?_)
        generalize hff30 : upd f23 (nI (j + 1)).toNatClampNeg (((p0.toUInt32 >>> ((8 : Int32).toUInt32 &&& Int32.toUInt32 31)).toInt32) &&& 255) = f30 at hP hD
        have hP : va_P (dC, dI) vwCl [(h0, .inr (10, [.ref h1, .int (nI (j + 1)), v2])), (h1, .inl (cI, 240, .inl f30))] H := hP
        have hD : va_D A [(h0, .inr (10, [.ref h1, .int (nI (j + 1)), v2])), (h1, .inl (cI, 240, .inl f30))] := hD
        refine lv_aload_n hx hb dX10_append_39 rfl (lv_at hl 2 rfl) ?_
        refine lv_dup hx hb dX10_append_40 rfl ?_
        refine va_get (D := (dC, dI)) (ci := 10) (v := .int (nI (j + 1))) (C := RX10) (T := TX10) (N := 3) hx hb hts hinX10 hown hK hP 0 rfl rfl 1 (by decide) (hts (.fieldLink RX10 15 "DreamGuard$Tape" "length" "I") (by decide +kernel)) (fun _ h9 => h9) rfl dX10_append_41 ?_
        refine lv_iconst (v := 1) hx hb dX10_append_44 (by decide) ?_
        refine lv_iadd hx hb dX10_append_45 ?_
        refine lv_topi (fun k31 ek31 => ?_)
        obtain rfl : k31 = nI (j + 1 + 1) := ek31.trans (nI_1 _)
        refine va_put (D := (dC, dI)) (ci := 10) (v := .int (nI (j + 1 + 1))) (ty := .int) (C := RX10) (T := TX10) (N := 3) hx hb hts hinX10 tyX10 tyX10_ok nmX10 hown hK hP hD hS 0 rfl rfl 1 (by decide) (hts (.fieldLink RX10 15 "DreamGuard$Tape" "length" "I") (by decide +kernel)) (fun _ h9 => h9) rfl (by decide +kernel) rfl rfl (Nat.le_of_ble_eq_true rfl) dX10_append_46 (fun H locs hP hD hS => ?_)
        have hP : va_P (dC, dI) vwCl [(h0, .inr (10, [.ref h1, .int (nI (j + 1 + 1)), v2])), (h1, .inl (cI, 240, .inl f30))] H := hP
        have hD : va_D A [(h0, .inr (10, [.ref h1, .int (nI (j + 1 + 1)), v2])), (h1, .inl (cI, 240, .inl f30))] := hD
        refine lv_iinc (v := 0) (lv' := [(2, .int 0), (3, .int (((p0.toUInt32 >>> ((8 : Int32).toUInt32 &&& Int32.toUInt32 31)).toInt32) &&& 255)), (0, .ref h0), (1, .int p0)]) hx hb dX10_append_49 hl (k := 1) rfl (by decide) (by decide) rfl (fun ls hl => ?_)
        refine lv_goto (tgt := 3) hx hb dX10_append_52 (by decide) ?_
        refine lv_iload_n hx hb dX10_append_3 rfl (lv_at hl 0 rfl) ?_
        refine lv_if_lt (tgt := 55) hx hb dX10_append_4 (by decide) (fun c9 => absurd c9 (by decide)) (fun _ => ?_)
        refine lv_iload_n hx hb dX10_append_7 rfl (lv_at hl 3 rfl) ?_
        refine lv_iload_n hx hb dX10_append_8 rfl (lv_at hl 0 rfl) ?_
        refine lv_iushr (v := (p0.toUInt32 >>> ((0 : Int32).toUInt32 &&& Int32.toUInt32 31)).toInt32) hx hb dX10_append_9 rfl ?_
        refine lv_sipush (v := 255) hx hb dX10_append_10 (by decide) ?_
        refine lv_iand hx hb dX10_append_13 ?_
        refine lv_istore_n (lv' := [(3, .int (((p0.toUInt32 >>> ((0 : Int32).toUInt32 &&& Int32.toUInt32 31)).toInt32) &&& 255)), (2, .int 0), (0, .ref h0), (1, .int p0)]) hx hb dX10_append_14 rfl hl (by decide) rfl (fun ls hl => ?_)
        refine lv_iload_n hx hb dX10_append_15 rfl (lv_at hl 0 rfl) ?_
        refine lv_if_eq (tgt := 49) hx hb dX10_append_16 (by decide) (fun c32 => ?_) (fun c32 => ?_)
        · skip
          refine lv_iinc (v := (-8)) (lv' := [(2, .int (-8)), (3, .int (((p0.toUInt32 >>> ((0 : Int32).toUInt32 &&& Int32.toUInt32 31)).toInt32) &&& 255)), (0, .ref h0), (1, .int p0)]) hx hb dX10_append_49 hl (k := 1) rfl (by decide) (by decide) rfl (fun ls hl => ?_)
          refine lv_goto (tgt := 3) hx hb dX10_append_52 (by decide) ?_
          refine lv_iload_n hx hb dX10_append_3 rfl (lv_at hl 0 rfl) ?_
          refine lv_if_lt (tgt := 55) hx hb dX10_append_4 (by decide) (fun _ => ?_) (fun c9 => absurd (by decide) c9)
          have hP9 := hP.sub (ws' := [(h0, .inr (10, [.ref h1, .int (nI (j + 1 + 1)), v2])), (h1, .inl (cI, 240, .inl f30))]) [0, 1] rfl
          have hD9 := hD.sub (ws' := [(h0, .inr (10, [.ref h1, .int (nI (j + 1 + 1)), v2])), (h1, .inl (cI, 240, .inl f30))]) [0, 1] (by decide) rfl
          exact W.vret hx hb hr (fun t ht hW => ⟨⟨(), rfl, trivial, ⟨(nI (j + 1 + 1)), f30, by rw [ht]; exact hP9, hD9, (by unfold zcnt; rw [if_neg c1, if_pos c25, if_neg c26, if_pos c32] <;> rfl)⟩⟩, hS.F ht⟩) hS.2.2 dX10_append_55
        · skip
          refine lv_aload_n hx hb dX10_append_19 rfl (lv_at hl 2 rfl) ?_
          refine va_get (D := (dC, dI)) (ci := 10) (v := .int (nI (j + 1 + 1))) (C := RX10) (T := TX10) (N := 3) hx hb hts hinX10 hown hK hP 0 rfl rfl 1 (by decide) (hts (.fieldLink RX10 15 "DreamGuard$Tape" "length" "I") (by decide +kernel)) (fun _ h9 => h9) rfl dX10_append_20 ?_
          refine lv_sipush (v := 240) hx hb dX10_append_23 (by decide) ?_
          refine lv_icmp_ge (tgt := 49) hx hb dX10_append_26 (by decide) (fun c9 => absurd c9 (zn240 (by omega))) (fun _ => ?_)
          refine lv_aload_n hx hb dX10_append_29 rfl (lv_at hl 2 rfl) ?_
          refine va_get (D := (dC, dI)) (ci := 10) (v := .ref h1) (C := RX10) (T := TX10) (N := 3) hx hb hts hinX10 hown hK hP 0 rfl rfl 0 (by decide) (hts (.fieldLink RX10 9 "DreamGuard$Tape" "signs" "[I") (by decide +kernel)) (fun _ h9 => h9) rfl dX10_append_30 ?_
          refine lv_aload_n hx hb dX10_append_33 rfl (lv_at hl 2 rfl) ?_
          refine va_get (D := (dC, dI)) (ci := 10) (v := .int (nI (j + 1 + 1))) (C := RX10) (T := TX10) (N := 3) hx hb hts hinX10 hown hK hP 0 rfl rfl 1 (by decide) (hts (.fieldLink RX10 15 "DreamGuard$Tape" "length" "I") (by decide +kernel)) (fun _ h9 => h9) rfl dX10_append_34 ?_
          refine lv_iload_n hx hb dX10_append_37 rfl (lv_at hl 0 rfl) ?_
          refine va_iast (i := (nI (j + 1 + 1))) hx hb hK hP hD hS 1 0 rfl rfl (vp_in_nI (by omega) (by decide)) dX10_append_38 (fun H locs hP hD hS => ?_)
          generalize hff33 : upd f30 (nI (j + 1 + 1)).toNatClampNeg (((p0.toUInt32 >>> ((0 : Int32).toUInt32 &&& Int32.toUInt32 31)).toInt32) &&& 255) = f33 at hP hD
          have hP : va_P (dC, dI) vwCl [(h0, .inr (10, [.ref h1, .int (nI (j + 1 + 1)), v2])), (h1, .inl (cI, 240, .inl f33))] H := hP
          have hD : va_D A [(h0, .inr (10, [.ref h1, .int (nI (j + 1 + 1)), v2])), (h1, .inl (cI, 240, .inl f33))] := hD
          refine lv_aload_n hx hb dX10_append_39 rfl (lv_at hl 2 rfl) ?_
          refine lv_dup hx hb dX10_append_40 rfl ?_
          refine va_get (D := (dC, dI)) (ci := 10) (v := .int (nI (j + 1 + 1))) (C := RX10) (T := TX10) (N := 3) hx hb hts hinX10 hown hK hP 0 rfl rfl 1 (by decide) (hts (.fieldLink RX10 15 "DreamGuard$Tape" "length" "I") (by decide +kernel)) (fun _ h9 => h9) rfl dX10_append_41 ?_
          refine lv_iconst (v := 1) hx hb dX10_append_44 (by decide) ?_
          refine lv_iadd hx hb dX10_append_45 ?_
          refine lv_topi (fun k34 ek34 => ?_)
          obtain rfl : k34 = nI (j + 1 + 1 + 1) := ek34.trans (nI_1 _)
          refine va_put (D := (dC, dI)) (ci := 10) (v := .int (nI (j + 1 + 1 + 1))) (ty := .int) (C := RX10) (T := TX10) (N := 3) hx hb hts hinX10 tyX10 tyX10_ok nmX10 hown hK hP hD hS 0 rfl rfl 1 (by decide) (hts (.fieldLink RX10 15 "DreamGuard$Tape" "length" "I") (by decide +kernel)) (fun _ h9 => h9) rfl (by decide +kernel) rfl rfl (Nat.le_of_ble_eq_true rfl) dX10_append_46 (fun H locs hP hD hS => ?_)
          have hP : va_P (dC, dI) vwCl [(h0, .inr (10, [.ref h1, .int (nI (j + 1 + 1 + 1)), v2])), (h1, .inl (cI, 240, .inl f33))] H := hP
          have hD : va_D A [(h0, .inr (10, [.ref h1, .int (nI (j + 1 + 1 + 1)), v2])), (h1, .inl (cI, 240, .inl f33))] := hD
          refine lv_iinc (v := (-8)) (lv' := [(2, .int (-8)), (3, .int (((p0.toUInt32 >>> ((0 : Int32).toUInt32 &&& Int32.toUInt32 31)).toInt32) &&& 255)), (0, .ref h0), (1, .int p0)]) hx hb dX10_append_49 hl (k := 1) rfl (by decide) (by decide) rfl (fun ls hl => ?_)
          refine lv_goto (tgt := 3) hx hb dX10_append_52 (by decide) ?_
          refine lv_iload_n hx hb dX10_append_3 rfl (lv_at hl 0 rfl) ?_
          refine lv_if_lt (tgt := 55) hx hb dX10_append_4 (by decide) (fun _ => ?_) (fun c9 => absurd (by decide) c9)
          have hP9 := hP.sub (ws' := [(h0, .inr (10, [.ref h1, .int (nI (j + 1 + 1 + 1)), v2])), (h1, .inl (cI, 240, .inl f33))]) [0, 1] rfl
          have hD9 := hD.sub (ws' := [(h0, .inr (10, [.ref h1, .int (nI (j + 1 + 1 + 1)), v2])), (h1, .inl (cI, 240, .inl f33))]) [0, 1] (by decide) rfl
          exact W.vret hx hb hr (fun t ht hW => ⟨⟨(), rfl, trivial, ⟨(nI (j + 1 + 1 + 1)), f33, by rw [ht]; exact hP9, hD9, (by unfold zcnt; rw [if_neg c1, if_pos c25, if_neg c26, if_neg c32] <;> rfl)⟩⟩, hS.F ht⟩) hS.2.2 dX10_append_55
    · skip
      refine lv_aload_n hx hb dX10_append_19 rfl (lv_at hl 2 rfl) ?_
      refine va_get (D := (dC, dI)) (ci := 10) (v := .int (nI (j + 1))) (C := RX10) (T := TX10) (N := 3) hx hb hts hinX10 hown hK hP 0 rfl rfl 1 (by decide) (hts (.fieldLink RX10 15 "DreamGuard$Tape" "length" "I") (by decide +kernel)) (fun _ h9 => h9) rfl dX10_append_20 ?_
      refine lv_sipush (v := 240) hx hb dX10_append_23 (by decide) ?_
      refine lv_icmp_ge (tgt := 49) hx hb dX10_append_26 (by decide) (fun c9 => absurd c9 (zn240 (by omega))) (fun _ => ?_)
      refine lv_aload_n hx hb dX10_append_29 rfl (lv_at hl 2 rfl) ?_
      refine va_get (D := (dC, dI)) (ci := 10) (v := .ref h1) (C := RX10) (T := TX10) (N := 3) hx hb hts hinX10 hown hK hP 0 rfl rfl 0 (by decide) (hts (.fieldLink RX10 9 "DreamGuard$Tape" "signs" "[I") (by decide +kernel)) (fun _ h9 => h9) rfl dX10_append_30 ?_
      refine lv_aload_n hx hb dX10_append_33 rfl (lv_at hl 2 rfl) ?_
      refine va_get (D := (dC, dI)) (ci := 10) (v := .int (nI (j + 1))) (C := RX10) (T := TX10) (N := 3) hx hb hts hinX10 hown hK hP 0 rfl rfl 1 (by decide) (hts (.fieldLink RX10 15 "DreamGuard$Tape" "length" "I") (by decide +kernel)) (fun _ h9 => h9) rfl dX10_append_34 ?_
      refine lv_iload_n hx hb dX10_append_37 rfl (lv_at hl 0 rfl) ?_
      refine va_iast (i := (nI (j + 1))) hx hb hK hP hD hS 1 0 rfl rfl (vp_in_nI (by omega) (by decide)) dX10_append_38 (fun H locs hP hD hS => ?_)
      generalize hff35 : upd f23 (nI (j + 1)).toNatClampNeg (((p0.toUInt32 >>> ((16 : Int32).toUInt32 &&& Int32.toUInt32 31)).toInt32) &&& 255) = f35 at hP hD
      have hP : va_P (dC, dI) vwCl [(h0, .inr (10, [.ref h1, .int (nI (j + 1)), v2])), (h1, .inl (cI, 240, .inl f35))] H := hP
      have hD : va_D A [(h0, .inr (10, [.ref h1, .int (nI (j + 1)), v2])), (h1, .inl (cI, 240, .inl f35))] := hD
      refine lv_aload_n hx hb dX10_append_39 rfl (lv_at hl 2 rfl) ?_
      refine lv_dup hx hb dX10_append_40 rfl ?_
      refine va_get (D := (dC, dI)) (ci := 10) (v := .int (nI (j + 1))) (C := RX10) (T := TX10) (N := 3) hx hb hts hinX10 hown hK hP 0 rfl rfl 1 (by decide) (hts (.fieldLink RX10 15 "DreamGuard$Tape" "length" "I") (by decide +kernel)) (fun _ h9 => h9) rfl dX10_append_41 ?_
      refine lv_iconst (v := 1) hx hb dX10_append_44 (by decide) ?_
      refine lv_iadd hx hb dX10_append_45 ?_
      refine lv_topi (fun k36 ek36 => ?_)
      obtain rfl : k36 = nI (j + 1 + 1) := ek36.trans (nI_1 _)
      refine va_put (D := (dC, dI)) (ci := 10) (v := .int (nI (j + 1 + 1))) (ty := .int) (C := RX10) (T := TX10) (N := 3) hx hb hts hinX10 tyX10 tyX10_ok nmX10 hown hK hP hD hS 0 rfl rfl 1 (by decide) (hts (.fieldLink RX10 15 "DreamGuard$Tape" "length" "I") (by decide +kernel)) (fun _ h9 => h9) rfl (by decide +kernel) rfl rfl (Nat.le_of_ble_eq_true rfl) dX10_append_46 (fun H locs hP hD hS => ?_)
      have hP : va_P (dC, dI) vwCl [(h0, .inr (10, [.ref h1, .int (nI (j + 1 + 1)), v2])), (h1, .inl (cI, 240, .inl f35))] H := hP
      have hD : va_D A [(h0, .inr (10, [.ref h1, .int (nI (j + 1 + 1)), v2])), (h1, .inl (cI, 240, .inl f35))] := hD
      refine lv_iinc (v := 8) (lv' := [(2, .int 8), (3, .int (((p0.toUInt32 >>> ((16 : Int32).toUInt32 &&& Int32.toUInt32 31)).toInt32) &&& 255)), (0, .ref h0), (1, .int p0)]) hx hb dX10_append_49 hl (k := 1) rfl (by decide) (by decide) rfl (fun ls hl => ?_)
      refine lv_goto (tgt := 3) hx hb dX10_append_52 (by decide) ?_
      refine lv_iload_n hx hb dX10_append_3 rfl (lv_at hl 0 rfl) ?_
      refine lv_if_lt (tgt := 55) hx hb dX10_append_4 (by decide) (fun c9 => absurd c9 (by decide)) (fun _ => ?_)
      refine lv_iload_n hx hb dX10_append_7 rfl (lv_at hl 3 rfl) ?_
      refine lv_iload_n hx hb dX10_append_8 rfl (lv_at hl 0 rfl) ?_
      refine lv_iushr (v := (p0.toUInt32 >>> ((8 : Int32).toUInt32 &&& Int32.toUInt32 31)).toInt32) hx hb dX10_append_9 rfl ?_
      refine lv_sipush (v := 255) hx hb dX10_append_10 (by decide) ?_
      refine lv_iand hx hb dX10_append_13 ?_
      refine lv_istore_n (lv' := [(3, .int (((p0.toUInt32 >>> ((8 : Int32).toUInt32 &&& Int32.toUInt32 31)).toInt32) &&& 255)), (2, .int 8), (0, .ref h0), (1, .int p0)]) hx hb dX10_append_14 rfl hl (by decide) rfl (fun ls hl => ?_)
      refine lv_iload_n hx hb dX10_append_15 rfl (lv_at hl 0 rfl) ?_
      refine lv_if_eq (tgt := 49) hx hb dX10_append_16 (by decide) (fun c37 => ?_) (fun c37 => ?_)
      · skip
        refine lv_iinc (v := 0) (lv' := [(2, .int 0), (3, .int (((p0.toUInt32 >>> ((8 : Int32).toUInt32 &&& Int32.toUInt32 31)).toInt32) &&& 255)), (0, .ref h0), (1, .int p0)]) hx hb dX10_append_49 hl (k := 1) rfl (by decide) (by decide) rfl (fun ls hl => ?_)
        refine lv_goto (tgt := 3) hx hb dX10_append_52 (by decide) ?_
        refine lv_iload_n hx hb dX10_append_3 rfl (lv_at hl 0 rfl) ?_
        refine lv_if_lt (tgt := 55) hx hb dX10_append_4 (by decide) (fun c9 => absurd c9 (by decide)) (fun _ => ?_)
        refine lv_iload_n hx hb dX10_append_7 rfl (lv_at hl 3 rfl) ?_
        refine lv_iload_n hx hb dX10_append_8 rfl (lv_at hl 0 rfl) ?_
        refine lv_iushr (v := (p0.toUInt32 >>> ((0 : Int32).toUInt32 &&& Int32.toUInt32 31)).toInt32) hx hb dX10_append_9 rfl ?_
        refine lv_sipush (v := 255) hx hb dX10_append_10 (by decide) ?_
        refine lv_iand hx hb dX10_append_13 ?_
        refine lv_istore_n (lv' := [(3, .int (((p0.toUInt32 >>> ((0 : Int32).toUInt32 &&& Int32.toUInt32 31)).toInt32) &&& 255)), (2, .int 0), (0, .ref h0), (1, .int p0)]) hx hb dX10_append_14 rfl hl (by decide) rfl (fun ls hl => ?_)
        refine lv_iload_n hx hb dX10_append_15 rfl (lv_at hl 0 rfl) ?_
        refine lv_if_eq (tgt := 49) hx hb dX10_append_16 (by decide) (fun c38 => ?_) (fun c38 => ?_)
        · skip
          refine lv_iinc (v := (-8)) (lv' := [(2, .int (-8)), (3, .int (((p0.toUInt32 >>> ((0 : Int32).toUInt32 &&& Int32.toUInt32 31)).toInt32) &&& 255)), (0, .ref h0), (1, .int p0)]) hx hb dX10_append_49 hl (k := 1) rfl (by decide) (by decide) rfl (fun ls hl => ?_)
          refine lv_goto (tgt := 3) hx hb dX10_append_52 (by decide) ?_
          refine lv_iload_n hx hb dX10_append_3 rfl (lv_at hl 0 rfl) ?_
          refine lv_if_lt (tgt := 55) hx hb dX10_append_4 (by decide) (fun _ => ?_) (fun c9 => absurd (by decide) c9)
          have hP9 := hP.sub (ws' := [(h0, .inr (10, [.ref h1, .int (nI (j + 1 + 1)), v2])), (h1, .inl (cI, 240, .inl f35))]) [0, 1] rfl
          have hD9 := hD.sub (ws' := [(h0, .inr (10, [.ref h1, .int (nI (j + 1 + 1)), v2])), (h1, .inl (cI, 240, .inl f35))]) [0, 1] (by decide) rfl
          exact W.vret hx hb hr (fun t ht hW => ⟨⟨(), rfl, trivial, ⟨(nI (j + 1 + 1)), f35, by rw [ht]; exact hP9, hD9, (by unfold zcnt; rw [if_neg c1, if_neg c25, if_pos c37, if_pos c38] <;> rfl)⟩⟩, hS.F ht⟩) hS.2.2 dX10_append_55
        · skip
          refine lv_aload_n hx hb dX10_append_19 rfl (lv_at hl 2 rfl) ?_
          refine va_get (D := (dC, dI)) (ci := 10) (v := .int (nI (j + 1 + 1))) (C := RX10) (T := TX10) (N := 3) hx hb hts hinX10 hown hK hP 0 rfl rfl 1 (by decide) (hts (.fieldLink RX10 15 "DreamGuard$Tape" "length" "I") (by decide +kernel)) (fun _ h9 => h9) rfl dX10_append_20 ?_
          refine lv_sipush (v := 240) hx hb dX10_append_23 (by decide) ?_
          refine lv_icmp_ge (tgt := 49) hx hb dX10_append_26 (by decide) (fun c9 => absurd c9 (zn240 (by omega))) (fun _ => ?_)
          refine lv_aload_n hx hb dX10_append_29 rfl (lv_at hl 2 rfl) ?_
          refine va_get (D := (dC, dI)) (ci := 10) (v := .ref h1) (C := RX10) (T := TX10) (N := 3) hx hb hts hinX10 hown hK hP 0 rfl rfl 0 (by decide) (hts (.fieldLink RX10 9 "DreamGuard$Tape" "signs" "[I") (by decide +kernel)) (fun _ h9 => h9) rfl dX10_append_30 ?_
          refine lv_aload_n hx hb dX10_append_33 rfl (lv_at hl 2 rfl) ?_
          refine va_get (D := (dC, dI)) (ci := 10) (v := .int (nI (j + 1 + 1))) (C := RX10) (T := TX10) (N := 3) hx hb hts hinX10 hown hK hP 0 rfl rfl 1 (by decide) (hts (.fieldLink RX10 15 "DreamGuard$Tape" "length" "I") (by decide +kernel)) (fun _ h9 => h9) rfl dX10_append_34 ?_
          refine lv_iload_n hx hb dX10_append_37 rfl (lv_at hl 0 rfl) ?_
          refine va_iast (i := (nI (j + 1 + 1))) hx hb hK hP hD hS 1 0 rfl rfl (vp_in_nI (by omega) (by decide)) dX10_append_38 (fun H locs hP hD hS => ?_)
          generalize hff39 : upd f35 (nI (j + 1 + 1)).toNatClampNeg (((p0.toUInt32 >>> ((0 : Int32).toUInt32 &&& Int32.toUInt32 31)).toInt32) &&& 255) = f39 at hP hD
          have hP : va_P (dC, dI) vwCl [(h0, .inr (10, [.ref h1, .int (nI (j + 1 + 1)), v2])), (h1, .inl (cI, 240, .inl f39))] H := hP
          have hD : va_D A [(h0, .inr (10, [.ref h1, .int (nI (j + 1 + 1)), v2])), (h1, .inl (cI, 240, .inl f39))] := hD
          refine lv_aload_n hx hb dX10_append_39 rfl (lv_at hl 2 rfl) ?_
          refine lv_dup hx hb dX10_append_40 rfl ?_
          refine va_get (D := (dC, dI)) (ci := 10) (v := .int (nI (j + 1 + 1))) (C := RX10) (T := TX10) (N := 3) hx hb hts hinX10 hown hK hP 0 rfl rfl 1 (by decide) (hts (.fieldLink RX10 15 "DreamGuard$Tape" "length" "I") (by decide +kernel)) (fun _ h9 => h9) rfl dX10_append_41 ?_
          refine lv_iconst (v := 1) hx hb dX10_append_44 (by decide) ?_
          refine lv_iadd hx hb dX10_append_45 ?_
          refine lv_topi (fun k40 ek40 => ?_)
          obtain rfl : k40 = nI (j + 1 + 1 + 1) := ek40.trans (nI_1 _)
          refine va_put (D := (dC, dI)) (ci := 10) (v := .int (nI (j + 1 + 1 + 1))) (ty := .int) (C := RX10) (T := TX10) (N := 3) hx hb hts hinX10 tyX10 tyX10_ok nmX10 hown hK hP hD hS 0 rfl rfl 1 (by decide) (hts (.fieldLink RX10 15 "DreamGuard$Tape" "length" "I") (by decide +kernel)) (fun _ h9 => h9) rfl (by decide +kernel) rfl rfl (Nat.le_of_ble_eq_true rfl) dX10_append_46 (fun H locs hP hD hS => ?_)
          have hP : va_P (dC, dI) vwCl [(h0, .inr (10, [.ref h1, .int (nI (j + 1 + 1 + 1)), v2])), (h1, .inl (cI, 240, .inl f39))] H := hP
          have hD : va_D A [(h0, .inr (10, [.ref h1, .int (nI (j + 1 + 1 + 1)), v2])), (h1, .inl (cI, 240, .inl f39))] := hD
          refine lv_iinc (v := (-8)) (lv' := [(2, .int (-8)), (3, .int (((p0.toUInt32 >>> ((0 : Int32).toUInt32 &&& Int32.toUInt32 31)).toInt32) &&& 255)), (0, .ref h0), (1, .int p0)]) hx hb dX10_append_49 hl (k := 1) rfl (by decide) (by decide) rfl (fun ls hl => ?_)
          refine lv_goto (tgt := 3) hx hb dX10_append_52 (by decide) ?_
          refine lv_iload_n hx hb dX10_append_3 rfl (lv_at hl 0 rfl) ?_
          refine lv_if_lt (tgt := 55) hx hb dX10_append_4 (by decide) (fun _ => ?_) (fun c9 => absurd (by decide) c9)
          have hP9 := hP.sub (ws' := [(h0, .inr (10, [.ref h1, .int (nI (j + 1 + 1 + 1)), v2])), (h1, .inl (cI, 240, .inl f39))]) [0, 1] rfl
          have hD9 := hD.sub (ws' := [(h0, .inr (10, [.ref h1, .int (nI (j + 1 + 1 + 1)), v2])), (h1, .inl (cI, 240, .inl f39))]) [0, 1] (by decide) rfl
          exact W.vret hx hb hr (fun t ht hW => ⟨⟨(), rfl, trivial, ⟨(nI (j + 1 + 1 + 1)), f39, by rw [ht]; exact hP9, hD9, (by unfold zcnt; rw [if_neg c1, if_neg c25, if_pos c37, if_neg c38] <;> rfl)⟩⟩, hS.F ht⟩) hS.2.2 dX10_append_55
      · skip
        refine lv_aload_n hx hb dX10_append_19 rfl (lv_at hl 2 rfl) ?_
        refine va_get (D := (dC, dI)) (ci := 10) (v := .int (nI (j + 1 + 1))) (C := RX10) (T := TX10) (N := 3) hx hb hts hinX10 hown hK hP 0 rfl rfl 1 (by decide) (hts (.fieldLink RX10 15 "DreamGuard$Tape" "length" "I") (by decide +kernel)) (fun _ h9 => h9) rfl dX10_append_20 ?_
        refine lv_sipush (v := 240) hx hb dX10_append_23 (by decide) ?_
        refine lv_icmp_ge (tgt := 49) hx hb dX10_append_26 (by decide) (fun c9 => absurd c9 (zn240 (by omega))) (fun _ => ?_)
        refine lv_aload_n hx hb dX10_append_29 rfl (lv_at hl 2 rfl) ?_
        refine va_get (D := (dC, dI)) (ci := 10) (v := .ref h1) (C := RX10) (T := TX10) (N := 3) hx hb hts hinX10 hown hK hP 0 rfl rfl 0 (by decide) (hts (.fieldLink RX10 9 "DreamGuard$Tape" "signs" "[I") (by decide +kernel)) (fun _ h9 => h9) rfl dX10_append_30 ?_
        refine lv_aload_n hx hb dX10_append_33 rfl (lv_at hl 2 rfl) ?_
        refine va_get (D := (dC, dI)) (ci := 10) (v := .int (nI (j + 1 + 1))) (C := RX10) (T := TX10) (N := 3) hx hb hts hinX10 hown hK hP 0 rfl rfl 1 (by decide) (hts (.fieldLink RX10 15 "DreamGuard$Tape" "length" "I") (by decide +kernel)) (fun _ h9 => h9) rfl dX10_append_34 ?_
        refine lv_iload_n hx hb dX10_append_37 rfl (lv_at hl 0 rfl) ?_
        refine va_iast (i := (nI (j + 1 + 1))) hx hb hK hP hD hS 1 0 rfl rfl (vp_in_nI (by omega) (by decide)) dX10_append_38 (fun H locs hP hD hS => ?_)
        generalize hff41 : upd f35 (nI (j + 1 + 1)).toNatClampNeg (((p0.toUInt32 >>> ((8 : Int32).toUInt32 &&& Int32.toUInt32 31)).toInt32) &&& 255) = f41 at hP hD
        have hP : va_P (dC, dI) vwCl [(h0, .inr (10, [.ref h1, .int (nI (j + 1 + 1)), v2])), (h1, .inl (cI, 240, .inl f41))] H := hP
        have hD : va_D A [(h0, .inr (10, [.ref h1, .int (nI (j + 1 + 1)), v2])), (h1, .inl (cI, 240, .inl f41))] := hD
        refine lv_aload_n hx hb dX10_append_39 rfl (lv_at hl 2 rfl) ?_
        refine lv_dup hx hb dX10_append_40 rfl ?_
        refine va_get (D := (dC, dI)) (ci := 10) (v := .int (nI (j + 1 + 1))) (C := RX10) (T := TX10) (N := 3) hx hb hts hinX10 hown hK hP 0 rfl rfl 1 (by decide) (hts (.fieldLink RX10 15 "DreamGuard$Tape" "length" "I") (by decide +kernel)) (fun _ h9 => h9) rfl dX10_append_41 ?_
        refine lv_iconst (v := 1) hx hb dX10_append_44 (by decide) ?_
        refine lv_iadd hx hb dX10_append_45 ?_
        refine lv_topi (fun k42 ek42 => ?_)
        obtain rfl : k42 = nI (j + 1 + 1 + 1) := ek42.trans (nI_1 _)
        refine va_put (D := (dC, dI)) (ci := 10) (v := .int (nI (j + 1 + 1 + 1))) (ty := .int) (C := RX10) (T := TX10) (N := 3) hx hb hts hinX10 tyX10 tyX10_ok nmX10 hown hK hP hD hS 0 rfl rfl 1 (by decide) (hts (.fieldLink RX10 15 "DreamGuard$Tape" "length" "I") (by decide +kernel)) (fun _ h9 => h9) rfl (by decide +kernel) rfl rfl (Nat.le_of_ble_eq_true rfl) dX10_append_46 (fun H locs hP hD hS => ?_)
        have hP : va_P (dC, dI) vwCl [(h0, .inr (10, [.ref h1, .int (nI (j + 1 + 1 + 1)), v2])), (h1, .inl (cI, 240, .inl f41))] H := hP
        have hD : va_D A [(h0, .inr (10, [.ref h1, .int (nI (j + 1 + 1 + 1)), v2])), (h1, .inl (cI, 240, .inl f41))] := hD
        refine lv_iinc (v := 0) (lv' := [(2, .int 0), (3, .int (((p0.toUInt32 >>> ((8 : Int32).toUInt32 &&& Int32.toUInt32 31)).toInt32) &&& 255)), (0, .ref h0), (1, .int p0)]) hx hb dX10_append_49 hl (k := 1) rfl (by decide) (by decide) rfl (fun ls hl => ?_)
        refine lv_goto (tgt := 3) hx hb dX10_append_52 (by decide) ?_
        refine lv_iload_n hx hb dX10_append_3 rfl (lv_at hl 0 rfl) ?_
        refine lv_if_lt (tgt := 55) hx hb dX10_append_4 (by decide) (fun c9 => absurd c9 (by decide)) (fun _ => ?_)
        refine lv_iload_n hx hb dX10_append_7 rfl (lv_at hl 3 rfl) ?_
        refine lv_iload_n hx hb dX10_append_8 rfl (lv_at hl 0 rfl) ?_
        refine lv_iushr (v := (p0.toUInt32 >>> ((0 : Int32).toUInt32 &&& Int32.toUInt32 31)).toInt32) hx hb dX10_append_9 rfl ?_
        refine lv_sipush (v := 255) hx hb dX10_append_10 (by decide) ?_
        refine lv_iand hx hb dX10_append_13 ?_
        refine lv_istore_n (lv' := [(3, .int (((p0.toUInt32 >>> ((0 : Int32).toUInt32 &&& Int32.toUInt32 31)).toInt32) &&& 255)), (2, .int 0), (0, .ref h0), (1, .int p0)]) hx hb dX10_append_14 rfl hl (by decide) rfl (fun ls hl => ?_)
        refine lv_iload_n hx hb dX10_append_15 rfl (lv_at hl 0 rfl) ?_
        refine lv_if_eq (tgt := 49) hx hb dX10_append_16 (by decide) (fun c43 => ?_) (fun c43 => ?_)
        · skip
          refine lv_iinc (v := (-8)) (lv' := [(2, .int (-8)), (3, .int (((p0.toUInt32 >>> ((0 : Int32).toUInt32 &&& Int32.toUInt32 31)).toInt32) &&& 255)), (0, .ref h0), (1, .int p0)]) hx hb dX10_append_49 hl (k := 1) rfl (by decide) (by decide) rfl (fun ls hl => ?_)
          refine lv_goto (tgt := 3) hx hb dX10_append_52 (by decide) ?_
          refine lv_iload_n hx hb dX10_append_3 rfl (lv_at hl 0 rfl) ?_
          refine lv_if_lt (tgt := 55) hx hb dX10_append_4 (by decide) (fun _ => ?_) (fun c9 => absurd (by decide) c9)
          have hP9 := hP.sub (ws' := [(h0, .inr (10, [.ref h1, .int (nI (j + 1 + 1 + 1)), v2])), (h1, .inl (cI, 240, .inl f41))]) [0, 1] rfl
          have hD9 := hD.sub (ws' := [(h0, .inr (10, [.ref h1, .int (nI (j + 1 + 1 + 1)), v2])), (h1, .inl (cI, 240, .inl f41))]) [0, 1] (by decide) rfl
          exact W.vret hx hb hr (fun t ht hW => ⟨⟨(), rfl, trivial, ⟨(nI (j + 1 + 1 + 1)), f41, by rw [ht]; exact hP9, hD9, (by unfold zcnt; rw [if_neg c1, if_neg c25, if_neg c37, if_pos c43] <;> rfl)⟩⟩, hS.F ht⟩) hS.2.2 dX10_append_55
        · skip
          refine lv_aload_n hx hb dX10_append_19 rfl (lv_at hl 2 rfl) ?_
          refine va_get (D := (dC, dI)) (ci := 10) (v := .int (nI (j + 1 + 1 + 1))) (C := RX10) (T := TX10) (N := 3) hx hb hts hinX10 hown hK hP 0 rfl rfl 1 (by decide) (hts (.fieldLink RX10 15 "DreamGuard$Tape" "length" "I") (by decide +kernel)) (fun _ h9 => h9) rfl dX10_append_20 ?_
          refine lv_sipush (v := 240) hx hb dX10_append_23 (by decide) ?_
          refine lv_icmp_ge (tgt := 49) hx hb dX10_append_26 (by decide) (fun c9 => absurd c9 (zn240 (by omega))) (fun _ => ?_)
          refine lv_aload_n hx hb dX10_append_29 rfl (lv_at hl 2 rfl) ?_
          refine va_get (D := (dC, dI)) (ci := 10) (v := .ref h1) (C := RX10) (T := TX10) (N := 3) hx hb hts hinX10 hown hK hP 0 rfl rfl 0 (by decide) (hts (.fieldLink RX10 9 "DreamGuard$Tape" "signs" "[I") (by decide +kernel)) (fun _ h9 => h9) rfl dX10_append_30 ?_
          refine lv_aload_n hx hb dX10_append_33 rfl (lv_at hl 2 rfl) ?_
          refine va_get (D := (dC, dI)) (ci := 10) (v := .int (nI (j + 1 + 1 + 1))) (C := RX10) (T := TX10) (N := 3) hx hb hts hinX10 hown hK hP 0 rfl rfl 1 (by decide) (hts (.fieldLink RX10 15 "DreamGuard$Tape" "length" "I") (by decide +kernel)) (fun _ h9 => h9) rfl dX10_append_34 ?_
          refine lv_iload_n hx hb dX10_append_37 rfl (lv_at hl 0 rfl) ?_
          refine va_iast (i := (nI (j + 1 + 1 + 1))) hx hb hK hP hD hS 1 0 rfl rfl (vp_in_nI (by omega) (by decide)) dX10_append_38 (fun H locs hP hD hS => ?_)
          generalize hff44 : upd f41 (nI (j + 1 + 1 + 1)).toNatClampNeg (((p0.toUInt32 >>> ((0 : Int32).toUInt32 &&& Int32.toUInt32 31)).toInt32) &&& 255) = f44 at hP hD
          have hP : va_P (dC, dI) vwCl [(h0, .inr (10, [.ref h1, .int (nI (j + 1 + 1 + 1)), v2])), (h1, .inl (cI, 240, .inl f44))] H := hP
          have hD : va_D A [(h0, .inr (10, [.ref h1, .int (nI (j + 1 + 1 + 1)), v2])), (h1, .inl (cI, 240, .inl f44))] := hD
          refine lv_aload_n hx hb dX10_append_39 rfl (lv_at hl 2 rfl) ?_
          refine lv_dup hx hb dX10_append_40 rfl ?_
          refine va_get (D := (dC, dI)) (ci := 10) (v := .int (nI (j + 1 + 1 + 1))) (C := RX10) (T := TX10) (N := 3) hx hb hts hinX10 hown hK hP 0 rfl rfl 1 (by decide) (hts (.fieldLink RX10 15 "DreamGuard$Tape" "length" "I") (by decide +kernel)) (fun _ h9 => h9) rfl dX10_append_41 ?_
          refine lv_iconst (v := 1) hx hb dX10_append_44 (by decide) ?_
          refine lv_iadd hx hb dX10_append_45 ?_
          refine lv_topi (fun k45 ek45 => ?_)
          obtain rfl : k45 = nI (j + 1 + 1 + 1 + 1) := ek45.trans (nI_1 _)
          refine va_put (D := (dC, dI)) (ci := 10) (v := .int (nI (j + 1 + 1 + 1 + 1))) (ty := .int) (C := RX10) (T := TX10) (N := 3) hx hb hts hinX10 tyX10 tyX10_ok nmX10 hown hK hP hD hS 0 rfl rfl 1 (by decide) (hts (.fieldLink RX10 15 "DreamGuard$Tape" "length" "I") (by decide +kernel)) (fun _ h9 => h9) rfl (by decide +kernel) rfl rfl (Nat.le_of_ble_eq_true rfl) dX10_append_46 (fun H locs hP hD hS => ?_)
          have hP : va_P (dC, dI) vwCl [(h0, .inr (10, [.ref h1, .int (nI (j + 1 + 1 + 1 + 1)), v2])), (h1, .inl (cI, 240, .inl f44))] H := hP
          have hD : va_D A [(h0, .inr (10, [.ref h1, .int (nI (j + 1 + 1 + 1 + 1)), v2])), (h1, .inl (cI, 240, .inl f44))] := hD
          refine lv_iinc (v := (-8)) (lv' := [(2, .int (-8)), (3, .int (((p0.toUInt32 >>> ((0 : Int32).toUInt32 &&& Int32.toUInt32 31)).toInt32) &&& 255)), (0, .ref h0), (1, .int p0)]) hx hb dX10_append_49 hl (k := 1) rfl (by decide) (by decide) rfl (fun ls hl => ?_)
          refine lv_goto (tgt := 3) hx hb dX10_append_52 (by decide) ?_
          refine lv_iload_n hx hb dX10_append_3 rfl (lv_at hl 0 rfl) ?_
          refine lv_if_lt (tgt := 55) hx hb dX10_append_4 (by decide) (fun _ => ?_) (fun c9 => absurd (by decide) c9)
          have hP9 := hP.sub (ws' := [(h0, .inr (10, [.ref h1, .int (nI (j + 1 + 1 + 1 + 1)), v2])), (h1, .inl (cI, 240, .inl f44))]) [0, 1] rfl
          have hD9 := hD.sub (ws' := [(h0, .inr (10, [.ref h1, .int (nI (j + 1 + 1 + 1 + 1)), v2])), (h1, .inl (cI, 240, .inl f44))]) [0, 1] (by decide) rfl
          exact W.vret hx hb hr (fun t ht hW => ⟨⟨(), rfl, trivial, ⟨(nI (j + 1 + 1 + 1 + 1)), f44, by rw [ht]; exact hP9, hD9, (by unfold zcnt; rw [if_neg c1, if_neg c25, if_neg c37, if_neg c43] <;> rfl)⟩⟩, hS.F ht⟩) hS.2.2 dX10_append_55

def s_X11_feed (p0 : Int32) (p1 : Int32) (p2 : Int32) (p3 : Int32) (p4 : Int32) : Int32 := nI (((((0 + zcnt p0) + zcnt p1) + zcnt p2) + zcnt p3) + zcnt p4)
set_option maxHeartbeats 4000000 in
set_option maxRecDepth 100000 in
theorem c_X11_feed (l : Launch) (dC : Nat → ClassId) (dI : Nat → Nat → Nat) (cI cZ : ClassId) (sz : Nat) (h0 : Nat) (h1 : Nat) (h2 : Nat) (d1 : Value) (d2 : Value) (d3 : Value) (d4 : Value) (d5 : Value) (d6 : Value) (d7 : Value) (d8 : Value) (d9 : Value) (d10 : Value) (d11 : Value) (d12 : Value) (d13 : Value) (d14 : Value) (d15 : Value) (d16 : Value) (d17 : Value) (d18 : Value) (d19 : Value) (v2 : Value) (p0 : Int32) (p1 : Int32) (p2 : Int32) (p3 : Int32) (p4 : Int32) : Met l yX11_feed wsX11_feed ({ frames := 1, cells := 0, slots := 0, locals := 23 }) (va_Pc [.ref h0, .int p0, .int p1, .int p2, .int p3, .int p4] (zPre dC dI cI cZ sz [(h0, .inr (11, [.ref h1, d1, d2, d3, d4, d5, d6, d7, d8, d9, d10, d11, d12, d13, d14, d15, d16, d17, d18, d19])), (h1, .inr (10, [.ref h2, .int 0, v2])), (h2, .inl (cI, 240, .inl (fun _ => 0)))])) (va_Qi (fun (r : Int32) (_ : Unit) => r = s_X11_feed p0 p1 p2 p3 p4) (fun (_ : Unit) _ => True) (va_A [(h0, .inr (11, [.ref h1, d1, d2, d3, d4, d5, d6, d7, d8, d9, d10, d11, d12, d13, d14, d15, d16, d17, d18, d19])), (h1, .inr (10, [.ref h2, .int 0, v2])), (h2, .inl (cI, 240, .inl (fun _ => 0)))] sz)) 0 0 (va_A [(h0, .inr (11, [.ref h1, d1, d2, d3, d4, d5, d6, d7, d8, d9, d10, d11, d12, d13, d14, d15, d16, d17, d18, d19])), (h1, .inr (10, [.ref h2, .int 0, v2])), (h2, .inl (cI, 240, .inl (fun _ => 0)))] sz) := by
  refine Met.ofW (cc := cX11_feed) (maxL := 7) (ret := (some .int)) (by decide) rfl ?_
  intro p e s m args below meth c s₁ B hml hv
  obtain ⟨rfl, hsz, hP, hK, hD0, hG⟩ := hv
  have hx := B.exec
  have hb := B.bytes
  have hr := B.returns
  have hts := atoms_spec (ws := wsX11_feed) B.pre
  have hown : s.vm.findClass RX11 = some m.cls := findClass_of_methodNamed B.named
  have hlocks := B.notSynchronized
  have hinX10 : ∀ w ∈ wsX100, w ∈ wsX11_feed := by decide +kernel
  have hinX11 : ∀ w ∈ wsX110, w ∈ wsX11_feed := by decide +kernel
  subst hsz
  have hD := hD0.self (sz := s.heap.size)
  generalize hAe : va_A [(h0, .inr (11, [.ref h1, d1, d2, d3, d4, d5, d6, d7, d8, d9, d10, d11, d12, d13, d14, d15, d16, d17, d18, d19])), (h1, .inr (10, [.ref h2, .int 0, v2])), (h2, .inl (cI, 240, .inl (fun _ => 0)))] s.heap.size = A at hD ⊢
  have hA : ∀ q : Nat, s.heap.size ≤ q → A q := fun q h => by rw [← hAe]; exact Or.inr h
  have hS : va_S A s.heap s.heap [] := va_S.rf
  have hP : va_P (dC, dI) vwCl [(h0, .inr (11, [.ref h1, d1, d2, d3, d4, d5, d6, d7, d8, d9, d10, d11, d12, d13, d14, d15, d16, d17, d18, d19])), (h1, .inr (10, [.ref h2, .int 0, v2])), (h2, .inl (cI, 240, .inl (fun _ => 0)))] s.heap := hP
  have hl := lv_entry ([.ref h0, .int p0, .int p1, .int p2, .int p3, .int p4]) (n := 7) (Nat.le_of_ble_eq_true rfl)
  rw [lg_entry_eq]
  generalize (lg_sl ([.ref h0, .int p0, .int p1, .int p2, .int p3, .int p4]) ++ List.replicate (7 - (lg_sl ([.ref h0, .int p0, .int p1, .int p2, .int p3, .int p4])).length) Slot.unset).toArray = ls at hl ⊢
  have hl : lv_has ls 7 [(0, .ref h0), (1, .int p0), (2, .int p1), (3, .int p2), (4, .int p3), (5, .int p4)] := hl
  refine lv_iload_n hx hb dX11_feed_0 rfl (lv_at hl 1 rfl) ?_
  have hPc : va_P (dC, dI) vwCl [] _ := zNoP (H := s.heap)
  have hDc : va_D (fun _ : Nat => True) [] := zNoD
  refine va_calli (va_runS (As := [.int p0]) (rest := []) ⟨hx, hb, hml, hown, hts⟩ (c_X10_signsIn l dC dI cI cZ s.heap.size p0) (va_cwS 1 hts gX11_feed_X10_signsIn rfl rfl rfl (by decide +kernel) ⟨Nat.le_of_ble_eq_true rfl, Nat.le_of_ble_eq_true rfl⟩) (zPreS hPc hK hDc hG) rfl rfl hl.1 rfl (lv_room (Nat.le_of_ble_eq_true rfl)) dX11_feed_1 ⟨Nat.le_of_ble_eq_true rfl, Nat.le_of_ble_eq_true rfl⟩) hS (fun _ _ h => h.elim) (fun _ h => h.elim) (fun r1 u9 t9 H1 locs ht9 hvm hwr1 hB9 hz1 hk1 hS => ?_)
  replace hP := zKept hP hk1
  try clear hB9 hz1 hk1 hvm ht9 u9 hPc hDc
  generalize H1 = H at hP hS ⊢
  obtain rfl : r1 = nI (zcnt p0) := hwr1.trans (zs_signsIn p0)
  refine lv_iload_n hx hb dX11_feed_4 rfl (lv_at hl 2 rfl) ?_
  have hPc : va_P (dC, dI) vwCl [] _ := zNoP (H := H)
  have hDc : va_D (fun _ : Nat => True) [] := zNoD
  refine va_calli (va_runS (As := [.int p1]) (rest := [.int (nI (zcnt p0))]) ⟨hx, hb, hml, hown, hts⟩ (c_X10_signsIn l dC dI cI cZ H.size p1) (va_cwS 1 hts gX11_feed_X10_signsIn rfl rfl rfl (by decide +kernel) ⟨Nat.le_of_ble_eq_true rfl, Nat.le_of_ble_eq_true rfl⟩) (zPreS hPc hK hDc hG) rfl rfl hl.1 rfl (lv_room (Nat.le_of_ble_eq_true rfl)) dX11_feed_5 ⟨Nat.le_of_ble_eq_true rfl, Nat.le_of_ble_eq_true rfl⟩) hS (fun _ _ h => h.elim) (fun _ h => h.elim) (fun r2 u9 t9 H1 locs ht9 hvm hwr2 hB9 hz1 hk1 hS => ?_)
  replace hP := zKept hP hk1
  try clear hB9 hz1 hk1 hvm ht9 u9 hPc hDc
  generalize H1 = H at hP hS ⊢
  obtain rfl : r2 = nI (zcnt p1) := hwr2.trans (zs_signsIn p1)
  refine lv_iadd hx hb dX11_feed_8 ?_
  refine lv_topi (fun k3 ek3 => ?_)
  obtain rfl : k3 = nI (zcnt p0 + zcnt p1) := ek3.trans (nI_add _ _)
  refine lv_iload_n hx hb dX11_feed_9 rfl (lv_at hl 3 rfl) ?_
  have hPc : va_P (dC, dI) vwCl [] _ := zNoP (H := H)
  have hDc : va_D (fun _ : Nat => True) [] := zNoD
  refine va_calli (va_runS (As := [.int p2]) (rest := [.int (nI (zcnt p0 + zcnt p1))]) ⟨hx, hb, hml, hown, hts⟩ (c_X10_signsIn l dC dI cI cZ H.size p2) (va_cwS 1 hts gX11_feed_X10_signsIn rfl rfl rfl (by decide +kernel) ⟨Nat.le_of_ble_eq_true rfl, Nat.le_of_ble_eq_true rfl⟩) (zPreS hPc hK hDc hG) rfl rfl hl.1 rfl (lv_room (Nat.le_of_ble_eq_true rfl)) dX11_feed_10 ⟨Nat.le_of_ble_eq_true rfl, Nat.le_of_ble_eq_true rfl⟩) hS (fun _ _ h => h.elim) (fun _ h => h.elim) (fun r4 u9 t9 H1 locs ht9 hvm hwr4 hB9 hz1 hk1 hS => ?_)
  replace hP := zKept hP hk1
  try clear hB9 hz1 hk1 hvm ht9 u9 hPc hDc
  generalize H1 = H at hP hS ⊢
  obtain rfl : r4 = nI (zcnt p2) := hwr4.trans (zs_signsIn p2)
  refine lv_iadd hx hb dX11_feed_13 ?_
  refine lv_topi (fun k5 ek5 => ?_)
  obtain rfl : k5 = nI (zcnt p0 + zcnt p1 + zcnt p2) := ek5.trans (nI_add _ _)
  refine lv_iload hx hb dX11_feed_14 (lv_at hl 4 rfl) ?_
  have hPc : va_P (dC, dI) vwCl [] _ := zNoP (H := H)
  have hDc : va_D (fun _ : Nat => True) [] := zNoD
  refine va_calli (va_runS (As := [.int p3]) (rest := [.int (nI (zcnt p0 + zcnt p1 + zcnt p2))]) ⟨hx, hb, hml, hown, hts⟩ (c_X10_signsIn l dC dI cI cZ H.size p3) (va_cwS 1 hts gX11_feed_X10_signsIn rfl rfl rfl (by decide +kernel) ⟨Nat.le_of_ble_eq_true rfl, Nat.le_of_ble_eq_true rfl⟩) (zPreS hPc hK hDc hG) rfl rfl hl.1 rfl (lv_room (Nat.le_of_ble_eq_true rfl)) dX11_feed_16 ⟨Nat.le_of_ble_eq_true rfl, Nat.le_of_ble_eq_true rfl⟩) hS (fun _ _ h => h.elim) (fun _ h => h.elim) (fun r6 u9 t9 H1 locs ht9 hvm hwr6 hB9 hz1 hk1 hS => ?_)
  replace hP := zKept hP hk1
  try clear hB9 hz1 hk1 hvm ht9 u9 hPc hDc
  generalize H1 = H at hP hS ⊢
  obtain rfl : r6 = nI (zcnt p3) := hwr6.trans (zs_signsIn p3)
  refine lv_iadd hx hb dX11_feed_19 ?_
  refine lv_topi (fun k7 ek7 => ?_)
  obtain rfl : k7 = nI (zcnt p0 + zcnt p1 + zcnt p2 + zcnt p3) := ek7.trans (nI_add _ _)
  refine lv_iload hx hb dX11_feed_20 (lv_at hl 5 rfl) ?_
  have hPc : va_P (dC, dI) vwCl [] _ := zNoP (H := H)
  have hDc : va_D (fun _ : Nat => True) [] := zNoD
  refine va_calli (va_runS (As := [.int p4]) (rest := [.int (nI (zcnt p0 + zcnt p1 + zcnt p2 + zcnt p3))]) ⟨hx, hb, hml, hown, hts⟩ (c_X10_signsIn l dC dI cI cZ H.size p4) (va_cwS 1 hts gX11_feed_X10_signsIn rfl rfl rfl (by decide +kernel) ⟨Nat.le_of_ble_eq_true rfl, Nat.le_of_ble_eq_true rfl⟩) (zPreS hPc hK hDc hG) rfl rfl hl.1 rfl (lv_room (Nat.le_of_ble_eq_true rfl)) dX11_feed_22 ⟨Nat.le_of_ble_eq_true rfl, Nat.le_of_ble_eq_true rfl⟩) hS (fun _ _ h => h.elim) (fun _ h => h.elim) (fun r8 u9 t9 H1 locs ht9 hvm hwr8 hB9 hz1 hk1 hS => ?_)
  replace hP := zKept hP hk1
  try clear hB9 hz1 hk1 hvm ht9 u9 hPc hDc
  generalize H1 = H at hP hS ⊢
  obtain rfl : r8 = nI (zcnt p4) := hwr8.trans (zs_signsIn p4)
  refine lv_iadd hx hb dX11_feed_25 ?_
  refine lv_topi (fun k9 ek9 => ?_)
  obtain rfl : k9 = nI (zcnt p0 + zcnt p1 + zcnt p2 + zcnt p3 + zcnt p4) := ek9.trans (nI_add _ _)
  refine lv_istore (lv' := [(6, .int (nI (zcnt p0 + zcnt p1 + zcnt p2 + zcnt p3 + zcnt p4))), (0, .ref h0), (1, .int p0), (2, .int p1), (3, .int p2), (4, .int p3), (5, .int p4)]) hx hb dX11_feed_26 hl (by decide) rfl (fun ls hl => ?_)
  refine lv_aload_n hx hb dX11_feed_28 rfl (lv_at hl 1 rfl) ?_
  refine va_get (D := (dC, dI)) (ci := 11) (v := .ref h1) (C := RX11) (T := TX11) (N := 20) hx hb hts hinX11 hown hK hP 0 rfl rfl 0 (by decide) (hts (.fieldLink RX11 10 "DreamGuard" "tape" "LDreamGuard$Tape;") (by decide +kernel)) (fun _ h9 => h9) rfl dX11_feed_29 ?_
  refine va_get (D := (dC, dI)) (ci := 10) (v := .int 0) (C := RX10) (T := TX10) (N := 3) hx hb hts hinX10 hown hK hP 1 rfl rfl 1 (by decide) (hts (.fieldLink RX11 129 "DreamGuard$Tape" "length" "I") (by decide +kernel)) (fun _ h9 => h9) rfl dX11_feed_32 ?_
  refine lv_iload hx hb dX11_feed_35 (lv_at hl 0 rfl) ?_
  refine lv_iadd hx hb dX11_feed_37 ?_
  refine lv_topi (fun k10 ek10 => ?_)
  obtain rfl : k10 = nI (zcnt p0 + zcnt p1 + zcnt p2 + zcnt p3 + zcnt p4) := ek10.trans (Int32.zero_add _)
  refine lv_sipush (v := 240) hx hb dX11_feed_38 (by decide) ?_
  refine lv_icmp_le (tgt := 46) hx hb dX11_feed_41 (by decide) (fun _ => ?_) (fun c9 => absurd (zle240 (by have z0 := zcnt_le p0; have z1 := zcnt_le p1; have z2 := zcnt_le p2; have z3 := zcnt_le p3; have z4 := zcnt_le p4; omega)) c9)
  refine lv_aload_n hx hb dX11_feed_46 rfl (lv_at hl 1 rfl) ?_
  refine va_get (D := (dC, dI)) (ci := 11) (v := .ref h1) (C := RX11) (T := TX11) (N := 20) hx hb hts hinX11 hown hK hP 0 rfl rfl 0 (by decide) (hts (.fieldLink RX11 10 "DreamGuard" "tape" "LDreamGuard$Tape;") (by decide +kernel)) (fun _ h9 => h9) rfl dX11_feed_47 ?_
  refine lv_iload_n hx hb dX11_feed_50 rfl (lv_at hl 2 rfl) ?_
  have hPc := hP.sub (ws' := [(h1, .inr (10, [.ref h2, .int 0, v2])), (h2, .inl (cI, 240, .inl (fun _ => 0)))]) [1, 2] rfl
  have hDc := hD.sub (ws' := [(h1, .inr (10, [.ref h2, .int 0, v2])), (h2, .inl (cI, 240, .inl (fun _ => 0)))]) [1, 2] (by decide) rfl
  have hFc := va_free (wc := [(h1, .inr (10, [.ref h2, .int 0, v2])), (h2, .inl (cI, 240, .inl (fun _ => 0)))]) hD hS hA [1, 2] rfl
  refine va_callv (va_runV (As := [.int p0]) (rest := []) ⟨hx, hb, hml, hown, hts⟩ (c_X10_append l dC dI cI cZ H.size h1 h2 0 (fun _ => 0) v2 p0 (by have z0 := zcnt_le p0; have z1 := zcnt_le p1; have z2 := zcnt_le p2; have z3 := zcnt_le p3; have z4 := zcnt_le p4; omega)) (cwV 1 hts gX11_feed_X10_append rfl rfl rfl (by decide +kernel) ⟨Nat.le_of_ble_eq_true rfl, Nat.le_of_ble_eq_true rfl⟩) (zPreV hPc hK hDc hG (ci := 10) (q0 := 0) rfl rfl) rfl rfl hl.1 rfl (lv_room (Nat.le_of_ble_eq_true rfl)) dX11_feed_51 ⟨Nat.le_of_ble_eq_true rfl, Nat.le_of_ble_eq_true rfl⟩) hS (fun q _ h => hFc q h) hFc (fun u9 t9 H1 locs ht9 hvm hwr11 hB9 hz1 hk1 hS => ?_)
  obtain ⟨v12, v13, hP1, hD1, hf14⟩ := hB9
  rw [ht9] at hP1
  obtain rfl : v12 = nI (0 + zcnt p0) := hf14
  obtain ⟨hP, hD⟩ := va_join (wr := [(h0, .inr (11, [.ref h1, d1, d2, d3, d4, d5, d6, d7, d8, d9, d10, d11, d12, d13, d14, d15, d16, d17, d18, d19]))]) (w1 := [(h1, .inr (10, [.ref h2, .int (nI (0 + zcnt p0)), v2])), (h2, .inl (cI, 240, .inl v13))]) hP hD [1, 2] [0] rfl rfl (by decide) (by decide) hk1 hFc hP1 hD1
  try clear hz1 hk1 hvm ht9 u9 hPc hDc hFc hP1 hD1
  generalize H1 = H at hP hS ⊢
  have hP : va_P (dC, dI) vwCl [(h0, .inr (11, [.ref h1, d1, d2, d3, d4, d5, d6, d7, d8, d9, d10, d11, d12, d13, d14, d15, d16, d17, d18, d19])), (h1, .inr (10, [.ref h2, .int (nI (0 + zcnt p0)), v2])), (h2, .inl (cI, 240, .inl v13))] H := hP
  have hD : va_D A [(h0, .inr (11, [.ref h1, d1, d2, d3, d4, d5, d6, d7, d8, d9, d10, d11, d12, d13, d14, d15, d16, d17, d18, d19])), (h1, .inr (10, [.ref h2, .int (nI (0 + zcnt p0)), v2])), (h2, .inl (cI, 240, .inl v13))] := hD
  refine lv_aload_n hx hb dX11_feed_54 rfl (lv_at hl 1 rfl) ?_
  refine va_get (D := (dC, dI)) (ci := 11) (v := .ref h1) (C := RX11) (T := TX11) (N := 20) hx hb hts hinX11 hown hK hP 0 rfl rfl 0 (by decide) (hts (.fieldLink RX11 10 "DreamGuard" "tape" "LDreamGuard$Tape;") (by decide +kernel)) (fun _ h9 => h9) rfl dX11_feed_55 ?_
  refine lv_iload_n hx hb dX11_feed_58 rfl (lv_at hl 3 rfl) ?_
  have hPc := hP.sub (ws' := [(h1, .inr (10, [.ref h2, .int (nI (0 + zcnt p0)), v2])), (h2, .inl (cI, 240, .inl v13))]) [1, 2] rfl
  have hDc := hD.sub (ws' := [(h1, .inr (10, [.ref h2, .int (nI (0 + zcnt p0)), v2])), (h2, .inl (cI, 240, .inl v13))]) [1, 2] (by decide) rfl
  have hFc := va_free (wc := [(h1, .inr (10, [.ref h2, .int (nI (0 + zcnt p0)), v2])), (h2, .inl (cI, 240, .inl v13))]) hD hS hA [1, 2] rfl
  refine va_callv (va_runV (As := [.int p1]) (rest := []) ⟨hx, hb, hml, hown, hts⟩ (c_X10_append l dC dI cI cZ H.size h1 h2 (0 + zcnt p0) v13 v2 p1 (by have z0 := zcnt_le p0; have z1 := zcnt_le p1; have z2 := zcnt_le p2; have z3 := zcnt_le p3; have z4 := zcnt_le p4; omega)) (cwV 1 hts gX11_feed_X10_append rfl rfl rfl (by decide +kernel) ⟨Nat.le_of_ble_eq_true rfl, Nat.le_of_ble_eq_true rfl⟩) (zPreV hPc hK hDc hG (ci := 10) (q0 := 0) rfl rfl) rfl rfl hl.1 rfl (lv_room (Nat.le_of_ble_eq_true rfl)) dX11_feed_59 ⟨Nat.le_of_ble_eq_true rfl, Nat.le_of_ble_eq_true rfl⟩) hS (fun q _ h => hFc q h) hFc (fun u9 t9 H1 locs ht9 hvm hwr15 hB9 hz1 hk1 hS => ?_)
  obtain ⟨v16, v17, hP1, hD1, hf18⟩ := hB9
  rw [ht9] at hP1
  obtain rfl : v16 = nI ((0 + zcnt p0) + zcnt p1) := hf18
  obtain ⟨hP, hD⟩ := va_join (wr := [(h0, .inr (11, [.ref h1, d1, d2, d3, d4, d5, d6, d7, d8, d9, d10, d11, d12, d13, d14, d15, d16, d17, d18, d19]))]) (w1 := [(h1, .inr (10, [.ref h2, .int (nI ((0 + zcnt p0) + zcnt p1)), v2])), (h2, .inl (cI, 240, .inl v17))]) hP hD [1, 2] [0] rfl rfl (by decide) (by decide) hk1 hFc hP1 hD1
  try clear hz1 hk1 hvm ht9 u9 hPc hDc hFc hP1 hD1
  generalize H1 = H at hP hS ⊢
  have hP : va_P (dC, dI) vwCl [(h0, .inr (11, [.ref h1, d1, d2, d3, d4, d5, d6, d7, d8, d9, d10, d11, d12, d13, d14, d15, d16, d17, d18, d19])), (h1, .inr (10, [.ref h2, .int (nI ((0 + zcnt p0) + zcnt p1)), v2])), (h2, .inl (cI, 240, .inl v17))] H := hP
  have hD : va_D A [(h0, .inr (11, [.ref h1, d1, d2, d3, d4, d5, d6, d7, d8, d9, d10, d11, d12, d13, d14, d15, d16, d17, d18, d19])), (h1, .inr (10, [.ref h2, .int (nI ((0 + zcnt p0) + zcnt p1)), v2])), (h2, .inl (cI, 240, .inl v17))] := hD
  refine lv_aload_n hx hb dX11_feed_62 rfl (lv_at hl 1 rfl) ?_
  refine va_get (D := (dC, dI)) (ci := 11) (v := .ref h1) (C := RX11) (T := TX11) (N := 20) hx hb hts hinX11 hown hK hP 0 rfl rfl 0 (by decide) (hts (.fieldLink RX11 10 "DreamGuard" "tape" "LDreamGuard$Tape;") (by decide +kernel)) (fun _ h9 => h9) rfl dX11_feed_63 ?_
  refine lv_iload_n hx hb dX11_feed_66 rfl (lv_at hl 4 rfl) ?_
  have hPc := hP.sub (ws' := [(h1, .inr (10, [.ref h2, .int (nI ((0 + zcnt p0) + zcnt p1)), v2])), (h2, .inl (cI, 240, .inl v17))]) [1, 2] rfl
  have hDc := hD.sub (ws' := [(h1, .inr (10, [.ref h2, .int (nI ((0 + zcnt p0) + zcnt p1)), v2])), (h2, .inl (cI, 240, .inl v17))]) [1, 2] (by decide) rfl
  have hFc := va_free (wc := [(h1, .inr (10, [.ref h2, .int (nI ((0 + zcnt p0) + zcnt p1)), v2])), (h2, .inl (cI, 240, .inl v17))]) hD hS hA [1, 2] rfl
  refine va_callv (va_runV (As := [.int p2]) (rest := []) ⟨hx, hb, hml, hown, hts⟩ (c_X10_append l dC dI cI cZ H.size h1 h2 ((0 + zcnt p0) + zcnt p1) v17 v2 p2 (by have z0 := zcnt_le p0; have z1 := zcnt_le p1; have z2 := zcnt_le p2; have z3 := zcnt_le p3; have z4 := zcnt_le p4; omega)) (cwV 1 hts gX11_feed_X10_append rfl rfl rfl (by decide +kernel) ⟨Nat.le_of_ble_eq_true rfl, Nat.le_of_ble_eq_true rfl⟩) (zPreV hPc hK hDc hG (ci := 10) (q0 := 0) rfl rfl) rfl rfl hl.1 rfl (lv_room (Nat.le_of_ble_eq_true rfl)) dX11_feed_67 ⟨Nat.le_of_ble_eq_true rfl, Nat.le_of_ble_eq_true rfl⟩) hS (fun q _ h => hFc q h) hFc (fun u9 t9 H1 locs ht9 hvm hwr19 hB9 hz1 hk1 hS => ?_)
  obtain ⟨v20, v21, hP1, hD1, hf22⟩ := hB9
  rw [ht9] at hP1
  obtain rfl : v20 = nI (((0 + zcnt p0) + zcnt p1) + zcnt p2) := hf22
  obtain ⟨hP, hD⟩ := va_join (wr := [(h0, .inr (11, [.ref h1, d1, d2, d3, d4, d5, d6, d7, d8, d9, d10, d11, d12, d13, d14, d15, d16, d17, d18, d19]))]) (w1 := [(h1, .inr (10, [.ref h2, .int (nI (((0 + zcnt p0) + zcnt p1) + zcnt p2)), v2])), (h2, .inl (cI, 240, .inl v21))]) hP hD [1, 2] [0] rfl rfl (by decide) (by decide) hk1 hFc hP1 hD1
  try clear hz1 hk1 hvm ht9 u9 hPc hDc hFc hP1 hD1
  generalize H1 = H at hP hS ⊢
  have hP : va_P (dC, dI) vwCl [(h0, .inr (11, [.ref h1, d1, d2, d3, d4, d5, d6, d7, d8, d9, d10, d11, d12, d13, d14, d15, d16, d17, d18, d19])), (h1, .inr (10, [.ref h2, .int (nI (((0 + zcnt p0) + zcnt p1) + zcnt p2)), v2])), (h2, .inl (cI, 240, .inl v21))] H := hP
  have hD : va_D A [(h0, .inr (11, [.ref h1, d1, d2, d3, d4, d5, d6, d7, d8, d9, d10, d11, d12, d13, d14, d15, d16, d17, d18, d19])), (h1, .inr (10, [.ref h2, .int (nI (((0 + zcnt p0) + zcnt p1) + zcnt p2)), v2])), (h2, .inl (cI, 240, .inl v21))] := hD
  refine lv_aload_n hx hb dX11_feed_70 rfl (lv_at hl 1 rfl) ?_
  refine va_get (D := (dC, dI)) (ci := 11) (v := .ref h1) (C := RX11) (T := TX11) (N := 20) hx hb hts hinX11 hown hK hP 0 rfl rfl 0 (by decide) (hts (.fieldLink RX11 10 "DreamGuard" "tape" "LDreamGuard$Tape;") (by decide +kernel)) (fun _ h9 => h9) rfl dX11_feed_71 ?_
  refine lv_iload hx hb dX11_feed_74 (lv_at hl 5 rfl) ?_
  have hPc := hP.sub (ws' := [(h1, .inr (10, [.ref h2, .int (nI (((0 + zcnt p0) + zcnt p1) + zcnt p2)), v2])), (h2, .inl (cI, 240, .inl v21))]) [1, 2] rfl
  have hDc := hD.sub (ws' := [(h1, .inr (10, [.ref h2, .int (nI (((0 + zcnt p0) + zcnt p1) + zcnt p2)), v2])), (h2, .inl (cI, 240, .inl v21))]) [1, 2] (by decide) rfl
  have hFc := va_free (wc := [(h1, .inr (10, [.ref h2, .int (nI (((0 + zcnt p0) + zcnt p1) + zcnt p2)), v2])), (h2, .inl (cI, 240, .inl v21))]) hD hS hA [1, 2] rfl
  refine va_callv (va_runV (As := [.int p3]) (rest := []) ⟨hx, hb, hml, hown, hts⟩ (c_X10_append l dC dI cI cZ H.size h1 h2 (((0 + zcnt p0) + zcnt p1) + zcnt p2) v21 v2 p3 (by have z0 := zcnt_le p0; have z1 := zcnt_le p1; have z2 := zcnt_le p2; have z3 := zcnt_le p3; have z4 := zcnt_le p4; omega)) (cwV 1 hts gX11_feed_X10_append rfl rfl rfl (by decide +kernel) ⟨Nat.le_of_ble_eq_true rfl, Nat.le_of_ble_eq_true rfl⟩) (zPreV hPc hK hDc hG (ci := 10) (q0 := 0) rfl rfl) rfl rfl hl.1 rfl (lv_room (Nat.le_of_ble_eq_true rfl)) dX11_feed_76 ⟨Nat.le_of_ble_eq_true rfl, Nat.le_of_ble_eq_true rfl⟩) hS (fun q _ h => hFc q h) hFc (fun u9 t9 H1 locs ht9 hvm hwr23 hB9 hz1 hk1 hS => ?_)
  obtain ⟨v24, v25, hP1, hD1, hf26⟩ := hB9
  rw [ht9] at hP1
  obtain rfl : v24 = nI ((((0 + zcnt p0) + zcnt p1) + zcnt p2) + zcnt p3) := hf26
  obtain ⟨hP, hD⟩ := va_join (wr := [(h0, .inr (11, [.ref h1, d1, d2, d3, d4, d5, d6, d7, d8, d9, d10, d11, d12, d13, d14, d15, d16, d17, d18, d19]))]) (w1 := [(h1, .inr (10, [.ref h2, .int (nI ((((0 + zcnt p0) + zcnt p1) + zcnt p2) + zcnt p3)), v2])), (h2, .inl (cI, 240, .inl v25))]) hP hD [1, 2] [0] rfl rfl (by decide) (by decide) hk1 hFc hP1 hD1
  try clear hz1 hk1 hvm ht9 u9 hPc hDc hFc hP1 hD1
  generalize H1 = H at hP hS ⊢
  have hP : va_P (dC, dI) vwCl [(h0, .inr (11, [.ref h1, d1, d2, d3, d4, d5, d6, d7, d8, d9, d10, d11, d12, d13, d14, d15, d16, d17, d18, d19])), (h1, .inr (10, [.ref h2, .int (nI ((((0 + zcnt p0) + zcnt p1) + zcnt p2) + zcnt p3)), v2])), (h2, .inl (cI, 240, .inl v25))] H := hP
  have hD : va_D A [(h0, .inr (11, [.ref h1, d1, d2, d3, d4, d5, d6, d7, d8, d9, d10, d11, d12, d13, d14, d15, d16, d17, d18, d19])), (h1, .inr (10, [.ref h2, .int (nI ((((0 + zcnt p0) + zcnt p1) + zcnt p2) + zcnt p3)), v2])), (h2, .inl (cI, 240, .inl v25))] := hD
  refine lv_aload_n hx hb dX11_feed_79 rfl (lv_at hl 1 rfl) ?_
  refine va_get (D := (dC, dI)) (ci := 11) (v := .ref h1) (C := RX11) (T := TX11) (N := 20) hx hb hts hinX11 hown hK hP 0 rfl rfl 0 (by decide) (hts (.fieldLink RX11 10 "DreamGuard" "tape" "LDreamGuard$Tape;") (by decide +kernel)) (fun _ h9 => h9) rfl dX11_feed_80 ?_
  refine lv_iload hx hb dX11_feed_83 (lv_at hl 6 rfl) ?_
  have hPc := hP.sub (ws' := [(h1, .inr (10, [.ref h2, .int (nI ((((0 + zcnt p0) + zcnt p1) + zcnt p2) + zcnt p3)), v2])), (h2, .inl (cI, 240, .inl v25))]) [1, 2] rfl
  have hDc := hD.sub (ws' := [(h1, .inr (10, [.ref h2, .int (nI ((((0 + zcnt p0) + zcnt p1) + zcnt p2) + zcnt p3)), v2])), (h2, .inl (cI, 240, .inl v25))]) [1, 2] (by decide) rfl
  have hFc := va_free (wc := [(h1, .inr (10, [.ref h2, .int (nI ((((0 + zcnt p0) + zcnt p1) + zcnt p2) + zcnt p3)), v2])), (h2, .inl (cI, 240, .inl v25))]) hD hS hA [1, 2] rfl
  refine va_callv (va_runV (As := [.int p4]) (rest := []) ⟨hx, hb, hml, hown, hts⟩ (c_X10_append l dC dI cI cZ H.size h1 h2 ((((0 + zcnt p0) + zcnt p1) + zcnt p2) + zcnt p3) v25 v2 p4 (by have z0 := zcnt_le p0; have z1 := zcnt_le p1; have z2 := zcnt_le p2; have z3 := zcnt_le p3; have z4 := zcnt_le p4; omega)) (cwV 1 hts gX11_feed_X10_append rfl rfl rfl (by decide +kernel) ⟨Nat.le_of_ble_eq_true rfl, Nat.le_of_ble_eq_true rfl⟩) (zPreV hPc hK hDc hG (ci := 10) (q0 := 0) rfl rfl) rfl rfl hl.1 rfl (lv_room (Nat.le_of_ble_eq_true rfl)) dX11_feed_85 ⟨Nat.le_of_ble_eq_true rfl, Nat.le_of_ble_eq_true rfl⟩) hS (fun q _ h => hFc q h) hFc (fun u9 t9 H1 locs ht9 hvm hwr27 hB9 hz1 hk1 hS => ?_)
  obtain ⟨v28, v29, hP1, hD1, hf30⟩ := hB9
  rw [ht9] at hP1
  obtain rfl : v28 = nI (((((0 + zcnt p0) + zcnt p1) + zcnt p2) + zcnt p3) + zcnt p4) := hf30
  obtain ⟨hP, hD⟩ := va_join (wr := [(h0, .inr (11, [.ref h1, d1, d2, d3, d4, d5, d6, d7, d8, d9, d10, d11, d12, d13, d14, d15, d16, d17, d18, d19]))]) (w1 := [(h1, .inr (10, [.ref h2, .int (nI (((((0 + zcnt p0) + zcnt p1) + zcnt p2) + zcnt p3) + zcnt p4)), v2])), (h2, .inl (cI, 240, .inl v29))]) hP hD [1, 2] [0] rfl rfl (by decide) (by decide) hk1 hFc hP1 hD1
  try clear hz1 hk1 hvm ht9 u9 hPc hDc hFc hP1 hD1
  generalize H1 = H at hP hS ⊢
  have hP : va_P (dC, dI) vwCl [(h0, .inr (11, [.ref h1, d1, d2, d3, d4, d5, d6, d7, d8, d9, d10, d11, d12, d13, d14, d15, d16, d17, d18, d19])), (h1, .inr (10, [.ref h2, .int (nI (((((0 + zcnt p0) + zcnt p1) + zcnt p2) + zcnt p3) + zcnt p4)), v2])), (h2, .inl (cI, 240, .inl v29))] H := hP
  have hD : va_D A [(h0, .inr (11, [.ref h1, d1, d2, d3, d4, d5, d6, d7, d8, d9, d10, d11, d12, d13, d14, d15, d16, d17, d18, d19])), (h1, .inr (10, [.ref h2, .int (nI (((((0 + zcnt p0) + zcnt p1) + zcnt p2) + zcnt p3) + zcnt p4)), v2])), (h2, .inl (cI, 240, .inl v29))] := hD
  refine lv_aload_n hx hb dX11_feed_88 rfl (lv_at hl 1 rfl) ?_
  refine va_get (D := (dC, dI)) (ci := 11) (v := .ref h1) (C := RX11) (T := TX11) (N := 20) hx hb hts hinX11 hown hK hP 0 rfl rfl 0 (by decide) (hts (.fieldLink RX11 10 "DreamGuard" "tape" "LDreamGuard$Tape;") (by decide +kernel)) (fun _ h9 => h9) rfl dX11_feed_89 ?_
  refine va_get (D := (dC, dI)) (ci := 10) (v := .int (nI (((((0 + zcnt p0) + zcnt p1) + zcnt p2) + zcnt p3) + zcnt p4))) (C := RX10) (T := TX10) (N := 3) hx hb hts hinX10 hown hK hP 1 rfl rfl 1 (by decide) (hts (.fieldLink RX11 129 "DreamGuard$Tape" "length" "I") (by decide +kernel)) (fun _ h9 => h9) rfl dX11_feed_92 ?_
  exact W.iret (v := (nI (((((0 + zcnt p0) + zcnt p1) + zcnt p2) + zcnt p3) + zcnt p4))) hx hb hr (fun t ht hW => ⟨⟨(nI (((((0 + zcnt p0) + zcnt p1) + zcnt p2) + zcnt p3) + zcnt p4)), (), rfl, (by unfold s_X11_feed; first | rfl | simp), trivial⟩, hS.F ht⟩) hS.2.2 dX11_feed_95

def s_X12_byteOf (p0 : Int32) (p1 : Int32) (p2 : Int32) (p3 : Int32) (p4 : Int32) (p5 : Int32) : Int32 := (if 4 ≤ p5 then (if 8 ≤ p5 then (if 12 ≤ p5 then (if 16 ≤ p5 then (p4 >>> ((24 - (8 * (p5 - p5 / 4 * 4))) &&& 31)) &&& 255 else (p3 >>> ((24 - (8 * (p5 - p5 / 4 * 4))) &&& 31)) &&& 255) else (p2 >>> ((24 - (8 * (p5 - p5 / 4 * 4))) &&& 31)) &&& 255) else (p1 >>> ((24 - (8 * (p5 - p5 / 4 * 4))) &&& 31)) &&& 255) else (p0 >>> ((24 - (8 * (p5 - p5 / 4 * 4))) &&& 31)) &&& 255)
set_option maxHeartbeats 4000000 in
set_option maxRecDepth 100000 in
theorem c_X12_byteOf (l : Launch) (dC : Nat → ClassId) (dI : Nat → Nat → Nat) (cI cZ : ClassId) (sz : Nat) (p0 : Int32) (p1 : Int32) (p2 : Int32) (p3 : Int32) (p4 : Int32) (p5 : Int32) : Met l yX12_byteOf wsX12_byteOf ({ frames := 0, cells := 0, slots := 0, locals := 0 }) (va_Pc [.int p0, .int p1, .int p2, .int p3, .int p4, .int p5] (zPre dC dI cI cZ sz [])) (va_Qi (fun (r : Int32) (_ : Unit) => r = s_X12_byteOf p0 p1 p2 p3 p4 p5) (fun (_ : Unit) _ => True) (fun _ => False)) 0 0 (fun _ => False) := by
  refine Met.ofW (cc := cX12_byteOf) (maxL := 7) (ret := (some .int)) (by decide) rfl ?_
  intro p e s m args below meth c s₁ B hml hv
  obtain ⟨rfl, hsz, hP, hK, hD0, hG⟩ := hv
  have hx := B.exec
  have hb := B.bytes
  have hr := B.returns
  have hts := atoms_spec (ws := wsX12_byteOf) B.pre
  have hown : s.vm.findClass RX12 = some m.cls := findClass_of_methodNamed B.named
  have hlocks := B.notSynchronized
  subst hsz
  have hS : va_S (fun _ : Nat => False) s.heap s.heap [] := va_S.rf
  have hP : va_P (dC, dI) vwCl [] s.heap := hP
  have hl := lv_entry ([.int p0, .int p1, .int p2, .int p3, .int p4, .int p5]) (n := 7) (Nat.le_of_ble_eq_true rfl)
  rw [lg_entry_eq]
  generalize (lg_sl ([.int p0, .int p1, .int p2, .int p3, .int p4, .int p5]) ++ List.replicate (7 - (lg_sl ([.int p0, .int p1, .int p2, .int p3, .int p4, .int p5])).length) Slot.unset).toArray = ls at hl ⊢
  have hl : lv_has ls 7 [(0, .int p0), (1, .int p1), (2, .int p2), (3, .int p3), (4, .int p4), (5, .int p5)] := hl
  refine lv_iload hx hb dX12_byteOf_0 (lv_at hl 5 rfl) ?_
  refine lv_iconst (v := 4) hx hb dX12_byteOf_2 (by decide) ?_
  refine lv_icmp_ge (tgt := 10) hx hb dX12_byteOf_3 (by decide) (fun c1 => ?_) (fun c1 => ?_)
  · skip
    refine lv_iload hx hb dX12_byteOf_10 (lv_at hl 5 rfl) ?_
    refine lv_bipush (v := 8) hx hb dX12_byteOf_12 (by decide) ?_
    refine lv_icmp_ge (tgt := 21) hx hb dX12_byteOf_14 (by decide) (fun c2 => ?_) (fun c2 => ?_)
    · skip
      refine lv_iload hx hb dX12_byteOf_21 (lv_at hl 5 rfl) ?_
      refine lv_bipush (v := 12) hx hb dX12_byteOf_23 (by decide) ?_
      refine lv_icmp_ge (tgt := 32) hx hb dX12_byteOf_25 (by decide) (fun c3 => ?_) (fun c3 => ?_)
      · skip
        refine lv_iload hx hb dX12_byteOf_32 (lv_at hl 5 rfl) ?_
        refine lv_bipush (v := 16) hx hb dX12_byteOf_34 (by decide) ?_
        refine lv_icmp_ge (tgt := 43) hx hb dX12_byteOf_36 (by decide) (fun c4 => ?_) (fun c4 => ?_)
        · skip
          refine lv_iload hx hb dX12_byteOf_43 (lv_at hl 4 rfl) ?_
          refine lv_istore (lv' := [(6, .int p4), (0, .int p0), (1, .int p1), (2, .int p2), (3, .int p3), (4, .int p4), (5, .int p5)]) hx hb dX12_byteOf_45 hl (by decide) rfl (fun ls hl => ?_)
          refine lv_iload hx hb dX12_byteOf_47 (lv_at hl 0 rfl) ?_
          refine lv_bipush (v := 24) hx hb dX12_byteOf_49 (by decide) ?_
          refine lv_bipush (v := 8) hx hb dX12_byteOf_51 (by decide) ?_
          refine lv_iload hx hb dX12_byteOf_53 (lv_at hl 6 rfl) ?_
          refine lv_iconst (v := 4) hx hb dX12_byteOf_55 (by decide) ?_
          refine lv_irem hx hb dX12_byteOf_56 (by decide) ?_
          refine lv_imul hx hb dX12_byteOf_57 ?_
          refine lv_isub hx hb dX12_byteOf_58 ?_
          refine lv_ishr hx hb dX12_byteOf_59 ?_
          refine lv_sipush (v := 255) hx hb dX12_byteOf_60 (by decide) ?_
          refine lv_iand hx hb dX12_byteOf_63 ?_
          exact W.iret (v := ((p4 >>> ((24 - (8 * (p5 - p5 / 4 * 4))) &&& 31)) &&& 255)) hx hb hr (fun t ht hW => ⟨⟨((p4 >>> ((24 - (8 * (p5 - p5 / 4 * 4))) &&& 31)) &&& 255), (), rfl, (by unfold s_X12_byteOf; rw [if_pos c1, if_pos c2, if_pos c3, if_pos c4]), trivial⟩, hS.F ht⟩) hS.2.2 dX12_byteOf_64
        · skip
          refine lv_iload_n hx hb dX12_byteOf_39 rfl (lv_at hl 3 rfl) ?_
          refine lv_goto (tgt := 45) hx hb dX12_byteOf_40 (by decide) ?_
          refine lv_istore (lv' := [(6, .int p3), (0, .int p0), (1, .int p1), (2, .int p2), (3, .int p3), (4, .int p4), (5, .int p5)]) hx hb dX12_byteOf_45 hl (by decide) rfl (fun ls hl => ?_)
          refine lv_iload hx hb dX12_byteOf_47 (lv_at hl 0 rfl) ?_
          refine lv_bipush (v := 24) hx hb dX12_byteOf_49 (by decide) ?_
          refine lv_bipush (v := 8) hx hb dX12_byteOf_51 (by decide) ?_
          refine lv_iload hx hb dX12_byteOf_53 (lv_at hl 6 rfl) ?_
          refine lv_iconst (v := 4) hx hb dX12_byteOf_55 (by decide) ?_
          refine lv_irem hx hb dX12_byteOf_56 (by decide) ?_
          refine lv_imul hx hb dX12_byteOf_57 ?_
          refine lv_isub hx hb dX12_byteOf_58 ?_
          refine lv_ishr hx hb dX12_byteOf_59 ?_
          refine lv_sipush (v := 255) hx hb dX12_byteOf_60 (by decide) ?_
          refine lv_iand hx hb dX12_byteOf_63 ?_
          exact W.iret (v := ((p3 >>> ((24 - (8 * (p5 - p5 / 4 * 4))) &&& 31)) &&& 255)) hx hb hr (fun t ht hW => ⟨⟨((p3 >>> ((24 - (8 * (p5 - p5 / 4 * 4))) &&& 31)) &&& 255), (), rfl, (by unfold s_X12_byteOf; rw [if_pos c1, if_pos c2, if_pos c3, if_neg c4]), trivial⟩, hS.F ht⟩) hS.2.2 dX12_byteOf_64
      · skip
        refine lv_iload_n hx hb dX12_byteOf_28 rfl (lv_at hl 2 rfl) ?_
        refine lv_goto (tgt := 45) hx hb dX12_byteOf_29 (by decide) ?_
        refine lv_istore (lv' := [(6, .int p2), (0, .int p0), (1, .int p1), (2, .int p2), (3, .int p3), (4, .int p4), (5, .int p5)]) hx hb dX12_byteOf_45 hl (by decide) rfl (fun ls hl => ?_)
        refine lv_iload hx hb dX12_byteOf_47 (lv_at hl 0 rfl) ?_
        refine lv_bipush (v := 24) hx hb dX12_byteOf_49 (by decide) ?_
        refine lv_bipush (v := 8) hx hb dX12_byteOf_51 (by decide) ?_
        refine lv_iload hx hb dX12_byteOf_53 (lv_at hl 6 rfl) ?_
        refine lv_iconst (v := 4) hx hb dX12_byteOf_55 (by decide) ?_
        refine lv_irem hx hb dX12_byteOf_56 (by decide) ?_
        refine lv_imul hx hb dX12_byteOf_57 ?_
        refine lv_isub hx hb dX12_byteOf_58 ?_
        refine lv_ishr hx hb dX12_byteOf_59 ?_
        refine lv_sipush (v := 255) hx hb dX12_byteOf_60 (by decide) ?_
        refine lv_iand hx hb dX12_byteOf_63 ?_
        exact W.iret (v := ((p2 >>> ((24 - (8 * (p5 - p5 / 4 * 4))) &&& 31)) &&& 255)) hx hb hr (fun t ht hW => ⟨⟨((p2 >>> ((24 - (8 * (p5 - p5 / 4 * 4))) &&& 31)) &&& 255), (), rfl, (by unfold s_X12_byteOf; rw [if_pos c1, if_pos c2, if_neg c3]), trivial⟩, hS.F ht⟩) hS.2.2 dX12_byteOf_64
    · skip
      refine lv_iload_n hx hb dX12_byteOf_17 rfl (lv_at hl 1 rfl) ?_
      refine lv_goto (tgt := 45) hx hb dX12_byteOf_18 (by decide) ?_
      refine lv_istore (lv' := [(6, .int p1), (0, .int p0), (1, .int p1), (2, .int p2), (3, .int p3), (4, .int p4), (5, .int p5)]) hx hb dX12_byteOf_45 hl (by decide) rfl (fun ls hl => ?_)
      refine lv_iload hx hb dX12_byteOf_47 (lv_at hl 0 rfl) ?_
      refine lv_bipush (v := 24) hx hb dX12_byteOf_49 (by decide) ?_
      refine lv_bipush (v := 8) hx hb dX12_byteOf_51 (by decide) ?_
      refine lv_iload hx hb dX12_byteOf_53 (lv_at hl 6 rfl) ?_
      refine lv_iconst (v := 4) hx hb dX12_byteOf_55 (by decide) ?_
      refine lv_irem hx hb dX12_byteOf_56 (by decide) ?_
      refine lv_imul hx hb dX12_byteOf_57 ?_
      refine lv_isub hx hb dX12_byteOf_58 ?_
      refine lv_ishr hx hb dX12_byteOf_59 ?_
      refine lv_sipush (v := 255) hx hb dX12_byteOf_60 (by decide) ?_
      refine lv_iand hx hb dX12_byteOf_63 ?_
      exact W.iret (v := ((p1 >>> ((24 - (8 * (p5 - p5 / 4 * 4))) &&& 31)) &&& 255)) hx hb hr (fun t ht hW => ⟨⟨((p1 >>> ((24 - (8 * (p5 - p5 / 4 * 4))) &&& 31)) &&& 255), (), rfl, (by unfold s_X12_byteOf; rw [if_pos c1, if_neg c2]), trivial⟩, hS.F ht⟩) hS.2.2 dX12_byteOf_64
  · skip
    refine lv_iload_n hx hb dX12_byteOf_6 rfl (lv_at hl 0 rfl) ?_
    refine lv_goto (tgt := 45) hx hb dX12_byteOf_7 (by decide) ?_
    refine lv_istore (lv' := [(6, .int p0), (0, .int p0), (1, .int p1), (2, .int p2), (3, .int p3), (4, .int p4), (5, .int p5)]) hx hb dX12_byteOf_45 hl (by decide) rfl (fun ls hl => ?_)
    refine lv_iload hx hb dX12_byteOf_47 (lv_at hl 0 rfl) ?_
    refine lv_bipush (v := 24) hx hb dX12_byteOf_49 (by decide) ?_
    refine lv_bipush (v := 8) hx hb dX12_byteOf_51 (by decide) ?_
    refine lv_iload hx hb dX12_byteOf_53 (lv_at hl 6 rfl) ?_
    refine lv_iconst (v := 4) hx hb dX12_byteOf_55 (by decide) ?_
    refine lv_irem hx hb dX12_byteOf_56 (by decide) ?_
    refine lv_imul hx hb dX12_byteOf_57 ?_
    refine lv_isub hx hb dX12_byteOf_58 ?_
    refine lv_ishr hx hb dX12_byteOf_59 ?_
    refine lv_sipush (v := 255) hx hb dX12_byteOf_60 (by decide) ?_
    refine lv_iand hx hb dX12_byteOf_63 ?_
    exact W.iret (v := ((p0 >>> ((24 - (8 * (p5 - p5 / 4 * 4))) &&& 31)) &&& 255)) hx hb hr (fun t ht hW => ⟨⟨((p0 >>> ((24 - (8 * (p5 - p5 / 4 * 4))) &&& 31)) &&& 255), (), rfl, (by unfold s_X12_byteOf; rw [if_neg c1]), trivial⟩, hS.F ht⟩) hS.2.2 dX12_byteOf_64

/-- how many of the first n bytes aren't 0 -/
def zmc (p0 p1 p2 p3 p4 : Int32) : Nat → Nat
  | 0 => 0
  | n + 1 => zmc p0 p1 p2 p3 p4 n + (if s_X12_byteOf p0 p1 p2 p3 p4 (nI n) = 0 then 0 else 1)
theorem zmc_le (p0 p1 p2 p3 p4 : Int32) : ∀ n, zmc p0 p1 p2 p3 p4 n ≤ n
  | 0 => Nat.le_refl 0
  | n + 1 => by
    have h := zmc_le p0 p1 p2 p3 p4 n
    unfold zmc
    split <;> omega
theorem zmc_0 {p0 p1 p2 p3 p4 : Int32} {n : Nat} (h : s_X12_byteOf p0 p1 p2 p3 p4 (nI n) = 0) : zmc p0 p1 p2 p3 p4 (n + 1) = zmc p0 p1 p2 p3 p4 n := by
  show zmc p0 p1 p2 p3 p4 n + _ = _
  rw [if_pos h, Nat.add_zero]
theorem zmc_1 {p0 p1 p2 p3 p4 : Int32} {n : Nat} (h : ¬ s_X12_byteOf p0 p1 p2 p3 p4 (nI n) = 0) : zmc p0 p1 p2 p3 p4 (n + 1) = zmc p0 p1 p2 p3 p4 n + 1 := by
  show zmc p0 p1 p2 p3 p4 n + _ = _
  rw [if_neg h]

section ZMF1
variable {p : Program} {l : Launch} {e : Env} {R : Room} {s : State} {m : MethodId} {args : Array Value} {below : List Frame} {meth : Method} {c : Code} {Q : State → Prop} {dC : Nat → ClassId} {dI : Nat → Nat → Nat} {cI cZ : ClassId} {A : Nat → Prop}
set_option maxHeartbeats 4000000 in
set_option maxRecDepth 100000 in
theorem z_mfeed1 (hx : p.tables.exec = Jvm.exec) (hb : c.code = cX12_feed) (hml : c.maxLocals = 9) (hown : s.vm.findClass RX12 = some m.cls) (hts : ∀ w ∈ wsX12_feed, w.before args s = true) (hG : zG s) (hK : va_K (dC, dI) vwCl (zT cI cZ) s) (hA : ∀ q : Nat, s.heap.size ≤ q → A q) (hR : 0 + 1 ≤ R.frames ∧ 8 + (7 + 11) + 0 ≤ R.locals) (h0 : Nat) (h1 : Nat) (d0 : Value) (d3 : Value) (d4 : Value) (d5 : Value) (d6 : Value) (d7 : Value) (d8 : Value) (d9 : Value) (d10 : Value) (d11 : Value) (d12 : Value) (d13 : Value) (d14 : Value) (d15 : Value) (d16 : Value) (d17 : Value) (d18 : Value) (d19 : Value) (d20 : Value) (d21 : Value) (d22 : Value) (d23 : Value) (d24 : Value) (d25 : Value) (d26 : Value) (d27 : Value) (d28 : Value) (d29 : Value) (d30 : Value) (d31 : Value) (d32 : Value) (d33 : Value) (d34 : Value) (d35 : Value) (d36 : Value) (d37 : Value) (d38 : Value) (d39 : Value) (d40 : Value) (d41 : Value) (d42 : Value) (d43 : Value) (d44 : Value) (d45 : Value) (d46 : Value) (d47 : Value) (d48 : Value) (d49 : Value) (d50 : Value) (d51 : Value) (d52 : Value) (d53 : Value) (d54 : Value) (d55 : Value) (p0 : Int32) (p1 : Int32) (p2 : Int32) (p3 : Int32) (p4 : Int32)
    (exit : ∀ (H : Heap) (locs : List Loc) (ls : Array Slot), va_P (dC, dI) vwCl [(h0, .inr (12, [d0, .ref h1, .int 0, d3, d4, d5, d6, d7, d8, d9, d10, d11, d12, d13, d14, d15, d16, d17, d18, d19, d20, d21, d22, d23, d24, d25, d26, d27, d28, d29, d30, d31, d32, d33, d34, d35, d36, d37, d38, d39, d40, d41, d42, d43, d44, d45, d46, d47, d48, d49, d50, d51, d52, d53, d54, d55])), (h1, .inl (cI, 240, .inl (fun _ => 0)))] H → va_D A [(h0, .inr (12, [d0, .ref h1, .int 0, d3, d4, d5, d6, d7, d8, d9, d10, d11, d12, d13, d14, d15, d16, d17, d18, d19, d20, d21, d22, d23, d24, d25, d26, d27, d28, d29, d30, d31, d32, d33, d34, d35, d36, d37, d38, d39, d40, d41, d42, d43, d44, d45, d46, d47, d48, d49, d50, d51, d52, d53, d54, d55])), (h1, .inl (cI, 240, .inl (fun _ => 0)))] → va_S A s.heap H locs → lv_has ls 9 [(7, .int (nI 20)), (6, .int (nI (zmc p0 p1 p2 p3 p4 20))), (0, .ref h0), (1, .int p0), (2, .int p1), (3, .int p2), (4, .int p3), (5, .int p4)] → W p l e R s m args below meth c H locs 0 0 Q (F0 m 44 ls [])) :
    ∀ (n k : Nat), k + n = 20 → ∀ (H : Heap) (locs : List Loc) (ls : Array Slot), va_P (dC, dI) vwCl [(h0, .inr (12, [d0, .ref h1, .int 0, d3, d4, d5, d6, d7, d8, d9, d10, d11, d12, d13, d14, d15, d16, d17, d18, d19, d20, d21, d22, d23, d24, d25, d26, d27, d28, d29, d30, d31, d32, d33, d34, d35, d36, d37, d38, d39, d40, d41, d42, d43, d44, d45, d46, d47, d48, d49, d50, d51, d52, d53, d54, d55])), (h1, .inl (cI, 240, .inl (fun _ => 0)))] H → va_D A [(h0, .inr (12, [d0, .ref h1, .int 0, d3, d4, d5, d6, d7, d8, d9, d10, d11, d12, d13, d14, d15, d16, d17, d18, d19, d20, d21, d22, d23, d24, d25, d26, d27, d28, d29, d30, d31, d32, d33, d34, d35, d36, d37, d38, d39, d40, d41, d42, d43, d44, d45, d46, d47, d48, d49, d50, d51, d52, d53, d54, d55])), (h1, .inl (cI, 240, .inl (fun _ => 0)))] → va_S A s.heap H locs → lv_has ls 9 [(7, .int (nI k)), (6, .int (nI (zmc p0 p1 p2 p3 p4 k))), (0, .ref h0), (1, .int p0), (2, .int p1), (3, .int p2), (4, .int p3), (5, .int p4)] → W p l e R s m args below meth c H locs 0 0 Q (F0 m 6 ls []) := by

  intro n
  induction n with
  | zero =>
    intro k hk H locs ls hP hD hS hl
    obtain rfl : k = 20 := by omega
    refine lv_iload hx hb dX12_feed_6 (lv_at hl 0 rfl) ?_
    refine lv_bipush (v := 20) hx hb dX12_feed_8 (by decide) ?_
    refine lv_icmp_ge (tgt := 44) hx hb dX12_feed_10 (by decide) (fun _ => ?_) (fun c9 => absurd (by decide) c9)
    exact exit H locs ls hP hD hS hl
  | succ n ih =>
    intro k hk H locs ls hP hD hS hl
    have hk20 : k < 20 := by omega
    refine lv_iload hx hb dX12_feed_6 (lv_at hl 0 rfl) ?_
    refine lv_bipush (v := 20) hx hb dX12_feed_8 (by decide) ?_
    refine lv_icmp_ge (tgt := 44) hx hb dX12_feed_10 (by decide) (fun c9 => absurd c9 (nI_ge (b := 20) hk20 (by decide))) (fun _ => ?_)
    refine lv_iload hx hb dX12_feed_13 (lv_at hl 1 rfl) ?_
    refine lv_iload_n hx hb dX12_feed_15 rfl (lv_at hl 3 rfl) ?_
    refine lv_iload_n hx hb dX12_feed_16 rfl (lv_at hl 4 rfl) ?_
    refine lv_iload_n hx hb dX12_feed_17 rfl (lv_at hl 5 rfl) ?_
    refine lv_iload hx hb dX12_feed_18 (lv_at hl 6 rfl) ?_
    refine lv_iload hx hb dX12_feed_20 (lv_at hl 7 rfl) ?_
    refine lv_iload hx hb dX12_feed_22 (lv_at hl 0 rfl) ?_
    have hPc : va_P (dC, dI) vwCl [] _ := zNoP (H := H)
    have hDc : va_D (fun _ : Nat => True) [] := zNoD
    refine va_calli (va_runS (As := [.int p0, .int p1, .int p2, .int p3, .int p4, .int (nI k)]) (rest := [.int (nI (zmc p0 p1 p2 p3 p4 k))]) ⟨hx, hb, hml, hown, hts⟩ (c_X12_byteOf l dC dI cI cZ H.size p0 p1 p2 p3 p4 (nI k)) (cwS 6 hts gX12_feed_X12_byteOf rfl rfl rfl (by decide +kernel) hR) (zPreS hPc hK hDc hG) rfl rfl hl.1 rfl (lv_room (Nat.le_of_ble_eq_true rfl)) dX12_feed_24 ⟨Nat.zero_le _, Nat.zero_le _⟩) hS (fun _ _ h => h.elim) (fun _ h => h.elim) (fun r1 u9 t9 H1 locs ht9 hvm hwr1 hB9 hz1 hk1 hS => ?_)
    replace hP := zKept hP hk1
    try clear hB9 hz1 hk1 hvm ht9 u9 hPc hDc
    generalize H1 = H at hP hS ⊢
    obtain rfl : r1 = s_X12_byteOf p0 p1 p2 p3 p4 (nI k) := hwr1
    refine lv_if_eq (tgt := 34) hx hb dX12_feed_27 (by decide) (fun c2 => ?_) (fun c2 => ?_)
    · skip
      refine lv_iconst (v := 0) hx hb dX12_feed_34 (by decide) ?_
      refine lv_iadd hx hb dX12_feed_35 ?_
      refine lv_istore (lv' := [(6, .int ((nI (zmc p0 p1 p2 p3 p4 k)) + 0)), (7, .int (nI k)), (0, .ref h0), (1, .int p0), (2, .int p1), (3, .int p2), (4, .int p3), (5, .int p4)]) hx hb dX12_feed_36 hl (by decide) rfl (fun ls hl => ?_)
      refine lv_iinc (v := ((nI k) + 1)) (lv' := [(7, .int ((nI k) + 1)), (6, .int ((nI (zmc p0 p1 p2 p3 p4 k)) + 0)), (0, .ref h0), (1, .int p0), (2, .int p1), (3, .int p2), (4, .int p3), (5, .int p4)]) hx hb dX12_feed_38 hl (k := 1) rfl rfl (by decide) rfl (fun ls hl => ?_)
      refine lv_goto (tgt := 6) hx hb dX12_feed_41 (by decide) ?_
      have hl2 := lv_sub (l' := [(7, .int ((nI k) + 1)), (6, .int ((nI (zmc p0 p1 p2 p3 p4 k)) + 0)), (0, .ref h0), (1, .int p0), (2, .int p1), (3, .int p2), (4, .int p3), (5, .int p4)]) hl [0, 1, 2, 3, 4, 5, 6, 7] rfl
      have hl3 : lv_has ls 9 [(7, .int (nI (k + 1))), (6, .int (nI (zmc p0 p1 p2 p3 p4 (k + 1)))), (0, .ref h0), (1, .int p0), (2, .int p1), (3, .int p2), (4, .int p3), (5, .int p4)] := by
        rw [zmc_0 c2, ← nI_1 k]; rw [Int32.add_zero] at hl2; exact hl2
      exact ih (k + 1) (by omega) H locs ls hP hD hS hl3
    · skip
      refine lv_iconst (v := 1) hx hb dX12_feed_30 (by decide) ?_
      refine lv_goto (tgt := 35) hx hb dX12_feed_31 (by decide) ?_
      refine lv_iadd hx hb dX12_feed_35 ?_
      refine lv_istore (lv' := [(6, .int ((nI (zmc p0 p1 p2 p3 p4 k)) + 1)), (7, .int (nI k)), (0, .ref h0), (1, .int p0), (2, .int p1), (3, .int p2), (4, .int p3), (5, .int p4)]) hx hb dX12_feed_36 hl (by decide) rfl (fun ls hl => ?_)
      refine lv_iinc (v := ((nI k) + 1)) (lv' := [(7, .int ((nI k) + 1)), (6, .int ((nI (zmc p0 p1 p2 p3 p4 k)) + 1)), (0, .ref h0), (1, .int p0), (2, .int p1), (3, .int p2), (4, .int p3), (5, .int p4)]) hx hb dX12_feed_38 hl (k := 1) rfl rfl (by decide) rfl (fun ls hl => ?_)
      refine lv_goto (tgt := 6) hx hb dX12_feed_41 (by decide) ?_
      have hl2 := lv_sub (l' := [(7, .int ((nI k) + 1)), (6, .int ((nI (zmc p0 p1 p2 p3 p4 k)) + 1)), (0, .ref h0), (1, .int p0), (2, .int p1), (3, .int p2), (4, .int p3), (5, .int p4)]) hl [0, 1, 2, 3, 4, 5, 6, 7] rfl
      have hl3 : lv_has ls 9 [(7, .int (nI (k + 1))), (6, .int (nI (zmc p0 p1 p2 p3 p4 (k + 1)))), (0, .ref h0), (1, .int p0), (2, .int p1), (3, .int p2), (4, .int p3), (5, .int p4)] := by
        rw [zmc_1 c2, ← nI_1 k, ← nI_1 (zmc p0 p1 p2 p3 p4 k)]; exact hl2
      exact ih (k + 1) (by omega) H locs ls hP hD hS hl3
end ZMF1

section ZMF2
variable {p : Program} {l : Launch} {e : Env} {R : Room} {s : State} {m : MethodId} {args : Array Value} {below : List Frame} {meth : Method} {c : Code} {Q : State → Prop} {dC : Nat → ClassId} {dI : Nat → Nat → Nat} {cI cZ : ClassId} {A : Nat → Prop}
set_option maxHeartbeats 4000000 in
set_option maxRecDepth 100000 in
theorem z_mfeed2 (hx : p.tables.exec = Jvm.exec) (hb : c.code = cX12_feed) (hml : c.maxLocals = 9) (hown : s.vm.findClass RX12 = some m.cls) (hts : ∀ w ∈ wsX12_feed, w.before args s = true) (hG : zG s) (hK : va_K (dC, dI) vwCl (zT cI cZ) s) (hA : ∀ q : Nat, s.heap.size ≤ q → A q) (hR : 0 + 1 ≤ R.frames ∧ 8 + (7 + 11) + 0 ≤ R.locals) (h0 : Nat) (h1 : Nat) (d0 : Value) (d3 : Value) (d4 : Value) (d5 : Value) (d6 : Value) (d7 : Value) (d8 : Value) (d9 : Value) (d10 : Value) (d11 : Value) (d12 : Value) (d13 : Value) (d14 : Value) (d15 : Value) (d16 : Value) (d17 : Value) (d18 : Value) (d19 : Value) (d20 : Value) (d21 : Value) (d22 : Value) (d23 : Value) (d24 : Value) (d25 : Value) (d26 : Value) (d27 : Value) (d28 : Value) (d29 : Value) (d30 : Value) (d31 : Value) (d32 : Value) (d33 : Value) (d34 : Value) (d35 : Value) (d36 : Value) (d37 : Value) (d38 : Value) (d39 : Value) (d40 : Value) (d41 : Value) (d42 : Value) (d43 : Value) (d44 : Value) (d45 : Value) (d46 : Value) (d47 : Value) (d48 : Value) (d49 : Value) (d50 : Value) (d51 : Value) (d52 : Value) (d53 : Value) (d54 : Value) (d55 : Value) (p0 : Int32) (p1 : Int32) (p2 : Int32) (p3 : Int32) (p4 : Int32)
    (exit : ∀ (H : Heap) (locs : List Loc) (g : Nat → Int32) (ls : Array Slot), va_P (dC, dI) vwCl [(h0, .inr (12, [d0, .ref h1, .int (nI (zmc p0 p1 p2 p3 p4 20)), d3, d4, d5, d6, d7, d8, d9, d10, d11, d12, d13, d14, d15, d16, d17, d18, d19, d20, d21, d22, d23, d24, d25, d26, d27, d28, d29, d30, d31, d32, d33, d34, d35, d36, d37, d38, d39, d40, d41, d42, d43, d44, d45, d46, d47, d48, d49, d50, d51, d52, d53, d54, d55])), (h1, .inl (cI, 240, .inl g))] H → va_D A [(h0, .inr (12, [d0, .ref h1, .int (nI (zmc p0 p1 p2 p3 p4 20)), d3, d4, d5, d6, d7, d8, d9, d10, d11, d12, d13, d14, d15, d16, d17, d18, d19, d20, d21, d22, d23, d24, d25, d26, d27, d28, d29, d30, d31, d32, d33, d34, d35, d36, d37, d38, d39, d40, d41, d42, d43, d44, d45, d46, d47, d48, d49, d50, d51, d52, d53, d54, d55])), (h1, .inl (cI, 240, .inl g))] → va_S A s.heap H locs → lv_has ls 9 [(7, .int (nI 20)), (0, .ref h0), (1, .int p0), (2, .int p1), (3, .int p2), (4, .int p3), (5, .int p4)] → W p l e R s m args below meth c H locs 0 0 Q (F0 m 115 ls [])) :
    ∀ (n k : Nat), k + n = 20 → ∀ (H : Heap) (locs : List Loc) (g : Nat → Int32) (ls : Array Slot), va_P (dC, dI) vwCl [(h0, .inr (12, [d0, .ref h1, .int (nI (zmc p0 p1 p2 p3 p4 k)), d3, d4, d5, d6, d7, d8, d9, d10, d11, d12, d13, d14, d15, d16, d17, d18, d19, d20, d21, d22, d23, d24, d25, d26, d27, d28, d29, d30, d31, d32, d33, d34, d35, d36, d37, d38, d39, d40, d41, d42, d43, d44, d45, d46, d47, d48, d49, d50, d51, d52, d53, d54, d55])), (h1, .inl (cI, 240, .inl g))] H → va_D A [(h0, .inr (12, [d0, .ref h1, .int (nI (zmc p0 p1 p2 p3 p4 k)), d3, d4, d5, d6, d7, d8, d9, d10, d11, d12, d13, d14, d15, d16, d17, d18, d19, d20, d21, d22, d23, d24, d25, d26, d27, d28, d29, d30, d31, d32, d33, d34, d35, d36, d37, d38, d39, d40, d41, d42, d43, d44, d45, d46, d47, d48, d49, d50, d51, d52, d53, d54, d55])), (h1, .inl (cI, 240, .inl g))] → va_S A s.heap H locs → lv_has ls 9 [(7, .int (nI k)), (0, .ref h0), (1, .int p0), (2, .int p1), (3, .int p2), (4, .int p3), (5, .int p4)] → W p l e R s m args below meth c H locs 0 0 Q (F0 m 62 ls []) := by
  have hinX12 : ∀ w ∈ wsX120, w ∈ wsX12_feed := by decide +kernel
  intro n
  induction n with
  | zero =>
    intro k hk H locs g ls hP hD hS hl
    obtain rfl : k = 20 := by omega
    refine lv_iload hx hb dX12_feed_62 (lv_at hl 0 rfl) ?_
    refine lv_bipush (v := 20) hx hb dX12_feed_64 (by decide) ?_
    refine lv_icmp_ge (tgt := 115) hx hb dX12_feed_66 (by decide) (fun _ => ?_) (fun c9 => absurd (by decide) c9)
    exact exit H locs g ls hP hD hS hl
  | succ n ih =>
    intro k hk H locs g ls hP hD hS hl
    have hk20 : k < 20 := by omega
    refine lv_iload hx hb dX12_feed_62 (lv_at hl 0 rfl) ?_
    refine lv_bipush (v := 20) hx hb dX12_feed_64 (by decide) ?_
    refine lv_icmp_ge (tgt := 115) hx hb dX12_feed_66 (by decide) (fun c9 => absurd c9 (nI_ge (b := 20) hk20 (by decide))) (fun _ => ?_)
    refine lv_iload_n hx hb dX12_feed_69 rfl (lv_at hl 2 rfl) ?_
    refine lv_iload_n hx hb dX12_feed_70 rfl (lv_at hl 3 rfl) ?_
    refine lv_iload_n hx hb dX12_feed_71 rfl (lv_at hl 4 rfl) ?_
    refine lv_iload hx hb dX12_feed_72 (lv_at hl 5 rfl) ?_
    refine lv_iload hx hb dX12_feed_74 (lv_at hl 6 rfl) ?_
    refine lv_iload hx hb dX12_feed_76 (lv_at hl 0 rfl) ?_
    have hPc : va_P (dC, dI) vwCl [] _ := zNoP (H := H)
    have hDc : va_D (fun _ : Nat => True) [] := zNoD
    refine va_calli (va_runS (As := [.int p0, .int p1, .int p2, .int p3, .int p4, .int (nI k)]) (rest := []) ⟨hx, hb, hml, hown, hts⟩ (c_X12_byteOf l dC dI cI cZ H.size p0 p1 p2 p3 p4 (nI k)) (cwS 6 hts gX12_feed_X12_byteOf rfl rfl rfl (by decide +kernel) hR) (zPreS hPc hK hDc hG) rfl rfl hl.1 rfl (lv_room (Nat.le_of_ble_eq_true rfl)) dX12_feed_78 ⟨Nat.zero_le _, Nat.zero_le _⟩) hS (fun _ _ h => h.elim) (fun _ h => h.elim) (fun r1 u9 t9 H1 locs ht9 hvm hwr1 hB9 hz1 hk1 hS => ?_)
    replace hP := zKept hP hk1
    try clear hB9 hz1 hk1 hvm ht9 u9 hPc hDc
    generalize H1 = H at hP hS ⊢
    obtain rfl : r1 = s_X12_byteOf p0 p1 p2 p3 p4 (nI k) := hwr1
    refine lv_istore (lv' := [(8, .int (s_X12_byteOf p0 p1 p2 p3 p4 (nI k))), (7, .int (nI k)), (0, .ref h0), (1, .int p0), (2, .int p1), (3, .int p2), (4, .int p3), (5, .int p4)]) hx hb dX12_feed_81 hl (by decide) rfl (fun ls hl => ?_)
    refine lv_iload hx hb dX12_feed_83 (lv_at hl 0 rfl) ?_
    refine lv_if_eq (tgt := 109) hx hb dX12_feed_85 (by decide) (fun c2 => ?_) (fun c2 => ?_)
    · skip
      refine lv_iinc (v := ((nI k) + 1)) (lv' := [(7, .int ((nI k) + 1)), (8, .int (s_X12_byteOf p0 p1 p2 p3 p4 (nI k))), (0, .ref h0), (1, .int p0), (2, .int p1), (3, .int p2), (4, .int p3), (5, .int p4)]) hx hb dX12_feed_109 hl (k := 1) rfl rfl (by decide) rfl (fun ls hl => ?_)
      refine lv_goto (tgt := 62) hx hb dX12_feed_112 (by decide) ?_
      have hl2 := lv_sub (l' := [(7, .int ((nI k) + 1)), (0, .ref h0), (1, .int p0), (2, .int p1), (3, .int p2), (4, .int p3), (5, .int p4)]) hl [0, 2, 3, 4, 5, 6, 7] rfl
      have hl3 : lv_has ls 9 [(7, .int (nI (k + 1))), (0, .ref h0), (1, .int p0), (2, .int p1), (3, .int p2), (4, .int p3), (5, .int p4)] := by rw [← nI_1 k]; exact hl2
      refine ih (k + 1) (by omega) H locs _ ls (by rw [zmc_0 c2]; exact hP) (by rw [zmc_0 c2]; exact hD) hS hl3
    · skip
      refine lv_aload_n hx hb dX12_feed_88 rfl (lv_at hl 2 rfl) ?_
      refine va_get (D := (dC, dI)) (ci := 12) (v := .ref h1) (C := RX12) (T := TX12) (N := 56) hx hb hts hinX12 hown hK hP 0 rfl rfl 1 (by decide) (hts (.fieldLink RX12 9 "DreamGuardModel" "tape" "[I") (by decide +kernel)) (fun _ h9 => h9) rfl dX12_feed_89 ?_
      refine lv_aload_n hx hb dX12_feed_92 rfl (lv_at hl 2 rfl) ?_
      refine va_get (D := (dC, dI)) (ci := 12) (v := .int (nI (zmc p0 p1 p2 p3 p4 k))) (C := RX12) (T := TX12) (N := 56) hx hb hts hinX12 hown hK hP 0 rfl rfl 2 (by decide) (hts (.fieldLink RX12 121 "DreamGuardModel" "size" "I") (by decide +kernel)) (fun _ h9 => h9) rfl dX12_feed_93 ?_
      refine lv_iload hx hb dX12_feed_96 (lv_at hl 0 rfl) ?_
      refine va_iast (i := (nI (zmc p0 p1 p2 p3 p4 k))) hx hb hK hP hD hS 1 0 rfl rfl (vp_in_nI (by have := zmc_le p0 p1 p2 p3 p4 k; omega) (by decide)) dX12_feed_98 (fun H locs hP hD hS => ?_)
      generalize hff3 : upd g (nI (zmc p0 p1 p2 p3 p4 k)).toNatClampNeg (s_X12_byteOf p0 p1 p2 p3 p4 (nI k)) = f3 at hP hD
      have hP : va_P (dC, dI) vwCl [(h0, .inr (12, [d0, .ref h1, .int (nI (zmc p0 p1 p2 p3 p4 k)), d3, d4, d5, d6, d7, d8, d9, d10, d11, d12, d13, d14, d15, d16, d17, d18, d19, d20, d21, d22, d23, d24, d25, d26, d27, d28, d29, d30, d31, d32, d33, d34, d35, d36, d37, d38, d39, d40, d41, d42, d43, d44, d45, d46, d47, d48, d49, d50, d51, d52, d53, d54, d55])), (h1, .inl (cI, 240, .inl f3))] H := hP
      have hD : va_D A [(h0, .inr (12, [d0, .ref h1, .int (nI (zmc p0 p1 p2 p3 p4 k)), d3, d4, d5, d6, d7, d8, d9, d10, d11, d12, d13, d14, d15, d16, d17, d18, d19, d20, d21, d22, d23, d24, d25, d26, d27, d28, d29, d30, d31, d32, d33, d34, d35, d36, d37, d38, d39, d40, d41, d42, d43, d44, d45, d46, d47, d48, d49, d50, d51, d52, d53, d54, d55])), (h1, .inl (cI, 240, .inl f3))] := hD
      refine lv_aload_n hx hb dX12_feed_99 rfl (lv_at hl 2 rfl) ?_
      refine lv_dup hx hb dX12_feed_100 rfl ?_
      refine va_get (D := (dC, dI)) (ci := 12) (v := .int (nI (zmc p0 p1 p2 p3 p4 k))) (C := RX12) (T := TX12) (N := 56) hx hb hts hinX12 hown hK hP 0 rfl rfl 2 (by decide) (hts (.fieldLink RX12 121 "DreamGuardModel" "size" "I") (by decide +kernel)) (fun _ h9 => h9) rfl dX12_feed_101 ?_
      refine lv_iconst (v := 1) hx hb dX12_feed_104 (by decide) ?_
      refine lv_iadd hx hb dX12_feed_105 ?_
      refine lv_topi (fun k4 ek4 => ?_)
      obtain rfl : k4 = nI (zmc p0 p1 p2 p3 p4 k + 1) := ek4.trans (nI_1 _)
      refine va_put (D := (dC, dI)) (ci := 12) (v := .int (nI (zmc p0 p1 p2 p3 p4 k + 1))) (ty := .int) (C := RX12) (T := TX12) (N := 56) hx hb hts hinX12 tyX12 tyX12_ok nmX12 hown hK hP hD hS 0 rfl rfl 2 (by decide) (hts (.fieldLink RX12 121 "DreamGuardModel" "size" "I") (by decide +kernel)) (fun _ h9 => h9) rfl (by decide +kernel) rfl rfl (Nat.le_of_ble_eq_true rfl) dX12_feed_106 (fun H locs hP hD hS => ?_)
      have hP : va_P (dC, dI) vwCl [(h0, .inr (12, [d0, .ref h1, .int (nI (zmc p0 p1 p2 p3 p4 k + 1)), d3, d4, d5, d6, d7, d8, d9, d10, d11, d12, d13, d14, d15, d16, d17, d18, d19, d20, d21, d22, d23, d24, d25, d26, d27, d28, d29, d30, d31, d32, d33, d34, d35, d36, d37, d38, d39, d40, d41, d42, d43, d44, d45, d46, d47, d48, d49, d50, d51, d52, d53, d54, d55])), (h1, .inl (cI, 240, .inl f3))] H := hP
      have hD : va_D A [(h0, .inr (12, [d0, .ref h1, .int (nI (zmc p0 p1 p2 p3 p4 k + 1)), d3, d4, d5, d6, d7, d8, d9, d10, d11, d12, d13, d14, d15, d16, d17, d18, d19, d20, d21, d22, d23, d24, d25, d26, d27, d28, d29, d30, d31, d32, d33, d34, d35, d36, d37, d38, d39, d40, d41, d42, d43, d44, d45, d46, d47, d48, d49, d50, d51, d52, d53, d54, d55])), (h1, .inl (cI, 240, .inl f3))] := hD
      refine lv_iinc (v := ((nI k) + 1)) (lv' := [(7, .int ((nI k) + 1)), (8, .int (s_X12_byteOf p0 p1 p2 p3 p4 (nI k))), (0, .ref h0), (1, .int p0), (2, .int p1), (3, .int p2), (4, .int p3), (5, .int p4)]) hx hb dX12_feed_109 hl (k := 1) rfl rfl (by decide) rfl (fun ls hl => ?_)
      refine lv_goto (tgt := 62) hx hb dX12_feed_112 (by decide) ?_
      have hl2 := lv_sub (l' := [(7, .int ((nI k) + 1)), (0, .ref h0), (1, .int p0), (2, .int p1), (3, .int p2), (4, .int p3), (5, .int p4)]) hl [0, 2, 3, 4, 5, 6, 7] rfl
      have hl3 : lv_has ls 9 [(7, .int (nI (k + 1))), (0, .ref h0), (1, .int p0), (2, .int p1), (3, .int p2), (4, .int p3), (5, .int p4)] := by rw [← nI_1 k]; exact hl2
      refine ih (k + 1) (by omega) H locs _ ls (by rw [zmc_1 c2]; exact hP) (by rw [zmc_1 c2]; exact hD) hS hl3
end ZMF2

set_option maxHeartbeats 4000000 in
set_option maxRecDepth 100000 in
theorem c_X12_feed (l : Launch) (dC : Nat → ClassId) (dI : Nat → Nat → Nat) (cI cZ : ClassId) (sz : Nat) (h0 : Nat) (h1 : Nat) (d0 : Value) (d3 : Value) (d4 : Value) (d5 : Value) (d6 : Value) (d7 : Value) (d8 : Value) (d9 : Value) (d10 : Value) (d11 : Value) (d12 : Value) (d13 : Value) (d14 : Value) (d15 : Value) (d16 : Value) (d17 : Value) (d18 : Value) (d19 : Value) (d20 : Value) (d21 : Value) (d22 : Value) (d23 : Value) (d24 : Value) (d25 : Value) (d26 : Value) (d27 : Value) (d28 : Value) (d29 : Value) (d30 : Value) (d31 : Value) (d32 : Value) (d33 : Value) (d34 : Value) (d35 : Value) (d36 : Value) (d37 : Value) (d38 : Value) (d39 : Value) (d40 : Value) (d41 : Value) (d42 : Value) (d43 : Value) (d44 : Value) (d45 : Value) (d46 : Value) (d47 : Value) (d48 : Value) (d49 : Value) (d50 : Value) (d51 : Value) (d52 : Value) (d53 : Value) (d54 : Value) (d55 : Value) (p0 : Int32) (p1 : Int32) (p2 : Int32) (p3 : Int32) (p4 : Int32) : Met l yX12_feed wsX12_feed ({ frames := 1, cells := 0, slots := 0, locals := 40 }) (va_Pc [.ref h0, .int p0, .int p1, .int p2, .int p3, .int p4] (zPre dC dI cI cZ sz [(h0, .inr (12, [d0, .ref h1, .int 0, d3, d4, d5, d6, d7, d8, d9, d10, d11, d12, d13, d14, d15, d16, d17, d18, d19, d20, d21, d22, d23, d24, d25, d26, d27, d28, d29, d30, d31, d32, d33, d34, d35, d36, d37, d38, d39, d40, d41, d42, d43, d44, d45, d46, d47, d48, d49, d50, d51, d52, d53, d54, d55])), (h1, .inl (cI, 240, .inl (fun _ => 0)))])) (va_Qi (fun (r : Int32) (_ : Unit) => r = nI (zmc p0 p1 p2 p3 p4 20)) (fun (_ : Unit) _ => True) (va_A [(h0, .inr (12, [d0, .ref h1, .int 0, d3, d4, d5, d6, d7, d8, d9, d10, d11, d12, d13, d14, d15, d16, d17, d18, d19, d20, d21, d22, d23, d24, d25, d26, d27, d28, d29, d30, d31, d32, d33, d34, d35, d36, d37, d38, d39, d40, d41, d42, d43, d44, d45, d46, d47, d48, d49, d50, d51, d52, d53, d54, d55])), (h1, .inl (cI, 240, .inl (fun _ => 0)))] sz)) 0 0 (va_A [(h0, .inr (12, [d0, .ref h1, .int 0, d3, d4, d5, d6, d7, d8, d9, d10, d11, d12, d13, d14, d15, d16, d17, d18, d19, d20, d21, d22, d23, d24, d25, d26, d27, d28, d29, d30, d31, d32, d33, d34, d35, d36, d37, d38, d39, d40, d41, d42, d43, d44, d45, d46, d47, d48, d49, d50, d51, d52, d53, d54, d55])), (h1, .inl (cI, 240, .inl (fun _ => 0)))] sz) := by
  refine Met.ofW (cc := cX12_feed) (maxL := 9) (ret := (some .int)) (by decide) rfl ?_
  intro p e s m args below meth c s₁ B hml hv
  obtain ⟨rfl, hsz, hP, hK, hD0, hG⟩ := hv
  have hx := B.exec
  have hb := B.bytes
  have hr := B.returns
  have hts := atoms_spec (ws := wsX12_feed) B.pre
  have hown : s.vm.findClass RX12 = some m.cls := findClass_of_methodNamed B.named
  have hlocks := B.notSynchronized
  have hinX12 : ∀ w ∈ wsX120, w ∈ wsX12_feed := by decide +kernel
  subst hsz
  have hD := hD0.self (sz := s.heap.size)
  generalize hAe : va_A [(h0, .inr (12, [d0, .ref h1, .int 0, d3, d4, d5, d6, d7, d8, d9, d10, d11, d12, d13, d14, d15, d16, d17, d18, d19, d20, d21, d22, d23, d24, d25, d26, d27, d28, d29, d30, d31, d32, d33, d34, d35, d36, d37, d38, d39, d40, d41, d42, d43, d44, d45, d46, d47, d48, d49, d50, d51, d52, d53, d54, d55])), (h1, .inl (cI, 240, .inl (fun _ => 0)))] s.heap.size = A at hD ⊢
  have hA : ∀ q : Nat, s.heap.size ≤ q → A q := fun q h => by rw [← hAe]; exact Or.inr h
  have hS : va_S A s.heap s.heap [] := va_S.rf
  have hP : va_P (dC, dI) vwCl [(h0, .inr (12, [d0, .ref h1, .int 0, d3, d4, d5, d6, d7, d8, d9, d10, d11, d12, d13, d14, d15, d16, d17, d18, d19, d20, d21, d22, d23, d24, d25, d26, d27, d28, d29, d30, d31, d32, d33, d34, d35, d36, d37, d38, d39, d40, d41, d42, d43, d44, d45, d46, d47, d48, d49, d50, d51, d52, d53, d54, d55])), (h1, .inl (cI, 240, .inl (fun _ => 0)))] s.heap := hP
  have hl := lv_entry ([.ref h0, .int p0, .int p1, .int p2, .int p3, .int p4]) (n := 9) (Nat.le_of_ble_eq_true rfl)
  rw [lg_entry_eq]
  generalize (lg_sl ([.ref h0, .int p0, .int p1, .int p2, .int p3, .int p4]) ++ List.replicate (9 - (lg_sl ([.ref h0, .int p0, .int p1, .int p2, .int p3, .int p4])).length) Slot.unset).toArray = ls at hl ⊢
  have hl : lv_has ls 9 [(0, .ref h0), (1, .int p0), (2, .int p1), (3, .int p2), (4, .int p3), (5, .int p4)] := hl
  refine lv_iconst (v := 0) hx hb dX12_feed_0 (by decide) ?_
  refine lv_istore (lv' := [(6, .int 0), (0, .ref h0), (1, .int p0), (2, .int p1), (3, .int p2), (4, .int p3), (5, .int p4)]) hx hb dX12_feed_1 hl (by decide) rfl (fun ls hl => ?_)
  refine lv_iconst (v := 0) hx hb dX12_feed_3 (by decide) ?_
  refine lv_istore (lv' := [(7, .int 0), (6, .int 0), (0, .ref h0), (1, .int p0), (2, .int p1), (3, .int p2), (4, .int p3), (5, .int p4)]) hx hb dX12_feed_4 hl (by decide) rfl (fun ls hl => ?_)
  have hl2 := lv_sub (l' := [(7, .int 0), (6, .int 0), (0, .ref h0), (1, .int p0), (2, .int p1), (3, .int p2), (4, .int p3), (5, .int p4)]) hl [0, 1, 2, 3, 4, 5, 6, 7] rfl
  have hl3 : lv_has ls 9 [(7, .int (nI 0)), (6, .int (nI (zmc p0 p1 p2 p3 p4 0))), (0, .ref h0), (1, .int p0), (2, .int p1), (3, .int p2), (4, .int p3), (5, .int p4)] := hl2
  refine z_mfeed1 hx hb hml hown hts hG hK hA ⟨Nat.le_of_ble_eq_true rfl, Nat.le_of_ble_eq_true rfl⟩ h0 h1 d0 d3 d4 d5 d6 d7 d8 d9 d10 d11 d12 d13 d14 d15 d16 d17 d18 d19 d20 d21 d22 d23 d24 d25 d26 d27 d28 d29 d30 d31 d32 d33 d34 d35 d36 d37 d38 d39 d40 d41 d42 d43 d44 d45 d46 d47 d48 d49 d50 d51 d52 d53 d54 d55 p0 p1 p2 p3 p4 (fun H locs ls hP hD hS hl => ?_) 20 0 rfl s.heap [] ls hP hD hS hl3
  refine lv_aload_n hx hb dX12_feed_44 rfl (lv_at hl 2 rfl) ?_
  refine va_get (D := (dC, dI)) (ci := 12) (v := .int 0) (C := RX12) (T := TX12) (N := 56) hx hb hts hinX12 hown hK hP 0 rfl rfl 2 (by decide) (hts (.fieldLink RX12 121 "DreamGuardModel" "size" "I") (by decide +kernel)) (fun _ h9 => h9) rfl dX12_feed_45 ?_
  refine lv_iload hx hb dX12_feed_48 (lv_at hl 1 rfl) ?_
  refine lv_iadd hx hb dX12_feed_50 ?_
  refine lv_topi (fun k1 ek1 => ?_)
  obtain rfl : k1 = nI (zmc p0 p1 p2 p3 p4 20) := ek1.trans (Int32.zero_add _)
  refine lv_sipush (v := 240) hx hb dX12_feed_51 (by decide) ?_
  refine lv_icmp_le (tgt := 59) hx hb dX12_feed_54 (by decide) (fun _ => ?_) (fun c9 => absurd (zle240 (by have := zmc_le p0 p1 p2 p3 p4 20; omega)) c9)
  refine lv_iconst (v := 0) hx hb dX12_feed_59 (by decide) ?_
  refine lv_istore (lv' := [(7, .int 0), (6, .int (nI (zmc p0 p1 p2 p3 p4 20))), (0, .ref h0), (1, .int p0), (2, .int p1), (3, .int p2), (4, .int p3), (5, .int p4)]) hx hb dX12_feed_60 hl (by decide) rfl (fun ls hl => ?_)
  have hl2 := lv_sub (l' := [(7, .int 0), (0, .ref h0), (1, .int p0), (2, .int p1), (3, .int p2), (4, .int p3), (5, .int p4)]) hl [0, 2, 3, 4, 5, 6, 7] rfl
  have hl3 : lv_has ls 9 [(7, .int (nI 0)), (0, .ref h0), (1, .int p0), (2, .int p1), (3, .int p2), (4, .int p3), (5, .int p4)] := hl2
  refine z_mfeed2 hx hb hml hown hts hG hK hA ⟨Nat.le_of_ble_eq_true rfl, Nat.le_of_ble_eq_true rfl⟩ h0 h1 d0 d3 d4 d5 d6 d7 d8 d9 d10 d11 d12 d13 d14 d15 d16 d17 d18 d19 d20 d21 d22 d23 d24 d25 d26 d27 d28 d29 d30 d31 d32 d33 d34 d35 d36 d37 d38 d39 d40 d41 d42 d43 d44 d45 d46 d47 d48 d49 d50 d51 d52 d53 d54 d55 p0 p1 p2 p3 p4 (fun H locs g ls hP hD hS hl => ?_) 20 0 rfl H locs (fun _ => 0) ls hP hD hS hl3
  refine lv_aload_n hx hb dX12_feed_115 rfl (lv_at hl 1 rfl) ?_
  refine va_get (D := (dC, dI)) (ci := 12) (v := .int (nI (zmc p0 p1 p2 p3 p4 20))) (C := RX12) (T := TX12) (N := 56) hx hb hts hinX12 hown hK hP 0 rfl rfl 2 (by decide) (hts (.fieldLink RX12 121 "DreamGuardModel" "size" "I") (by decide +kernel)) (fun _ h9 => h9) rfl dX12_feed_116 ?_
  exact W.iret (v := (nI (zmc p0 p1 p2 p3 p4 20))) hx hb hr (fun t ht hW => ⟨⟨(nI (zmc p0 p1 p2 p3 p4 20)), (), rfl, rfl, trivial⟩, hS.F ht⟩) hS.2.2 dX12_feed_119
