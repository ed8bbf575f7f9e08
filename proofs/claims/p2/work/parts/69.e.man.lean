/-! the law's cases -/
theorem lw_men {h : zH} (hI : yInv h) : (h.1 376 0).toInt ≤ 6 := by
  have := hI.1 376 (0, 0, 0, 6) (by decide +kernel) 0 (by decide) (by decide)
  exact this.2
theorem yP_snow2 {h : zH} (hI : yInv h) (he : h.1 406 18 = h.1 440 26) (a : Int32) : ∃ m x h', yrun m 60 85 [.inr (.inr 406), .inl a] h = some (some (.inl x), h') ∧ ∃ m2 h2, yrun m2 60 184 [.inr (.inr 440), .inl a] h' = some (some (.inl x), h2) ∧ yInv h2 ∧ h2.1 406 18 = h2.1 440 26 ∧ yInv h' := by
  obtain ⟨m, x, h', r1, m2, h2, r2, i2, e2⟩ := yP_snow hI he a
  obtain ⟨m3, x3, h3, r3, i3, -, -⟩ := ysnow (mid := 85) (reg := 86) (cell := 406) (fi := 18) (dep := 0) (by decide) (by decide +kernel) (by decide +kernel) (yS_snG (yGvOk (by decide))) (by decide) (by decide +kernel) hI a
  have e9 := yrun_u r1 r3
  cases e9
  exact ⟨m, x, h', r1, m2, h2, r2, i2, e2, i3⟩
section LWM
variable {p : Program} {l : Launch} {e : Env} {s : State} {m : MethodId} {below : List Frame} {meth : Method} {c : Code} {b L : Nat} {xs : Nat → Int32} {cI cZ cQ cG cJ : ClassId} {dC : Nat → ClassId} {dI : Nat → Nat → Nat} {ad : Nat → Nat} {ho sa : Nat} {h : zH} {H : Heap} {locs : List Loc} {cells slots pc : Nat} {Q : State → Prop} {ls : Array Slot}
set_option maxHeartbeats 4000000 in
/-- the call of the law's own man -/
theorem lw_man (C0 : lw_At p s m meth c b L xs) (X : lwK l cI cZ cQ cG cJ dC dI ad ho sa s) (hI : lwI cI cZ cQ cG cJ dC dI ad ho s h H locs) (lw_c : cells + 1 ≤ 601024) (lw_s : slots + 6 ≤ 7293034) (hm : (h.1 376 0).toInt ≤ 6) {p0 p1 : Int32} {st0 rest : List Value} (hdec : decode code pc = .ok (.invokestatic 42, 3)) (hst : st0 = .ref ho :: .int p1 :: .int p0 :: .ref (ad 406) :: rest) (hrest : (rest.map fun v => v.category).sum ≤ 8) (hls : ls.size = 7)
    (kk : ∀ (x : Int32) (H' : Heap) (locs' : List Loc), lwI cI cZ cQ cG cJ dC dI ad ho s h H' locs' → W p l e room_1 s m #[Value.ref b] below meth c H' locs' (cells + 1) (slots + 6) Q (F0 m (pc + 3) ls (.int x :: rest))) : W p l e room_1 s m #[Value.ref b] below meth c H locs cells slots Q (F0 m pc ls st0) := by
  obtain ⟨hx, hb, hr, hml, hown0, hts0, hX, hbl, hlocks, hgv⟩ := C0
  have hown : s.vm.findClass RL = some m.cls := hown0
  obtain ⟨hKJ, hinj, hadr, hho, hT, hX9, hlt⟩ := X
  obtain ⟨hP, hinv, hS, f, hO⟩ := hI
  have hts : ∀ w ∈ yALL ++ hG9, w.before #[Value.ref b] s = true := fun w hw => hts0 w (hbig_in w hw)
  have hcw : Cond.codeWith yL_man cL_man 5 (some .int) [(0, 10, 13, 13)] ∈ yALL ++ hG9 := List.mem_append_left _ (yWat_in (i := 1009) (by decide +kernel))
  have hgood : GoodIn (yALL ++ hG9) (va_wsS RL 42 yL_man hLw) := by
    intro w hw
    have hm9 : w ∈ yALL ++ hG9 := by
      rcases List.mem_append.mp (show w ∈ [Cond.methodLink RL 42 yL_man, .static yL_man, .initialized RL] ++ hLw from hw) with q | q
      · simp only [List.mem_cons, List.not_mem_nil, or_false] at q
        rcases q with rfl | rfl | rfl
        · exact List.mem_append_left _ (yWat_in (i := 1007) (by decide +kernel))
        · exact List.mem_append_left _ (yWat_in (i := 1008) (by decide +kernel))
        · exact List.mem_append_left _ (yWat_in (i := 108) (by decide +kernel))
      · rcases List.mem_cons.mp q with rfl | q
        · exact hcw
        · exact q
    exact ⟨hm9, good_of_word (hbig_good w hm9)⟩
  subst hst
  refine va_calli (vx_runSW (l := l) (As := [.ref (ad 406), .int p0, .int p1, .ref ho]) (rest := rest) ⟨hx, hb, hml, hown, hts⟩ (c_Lman l hlt cI cZ cQ cG cJ dC dI ad ho H.size sa h hm p0 p1) (vx_cwSW 4 hts hgood rfl rfl rfl (by decide +kernel) ⟨Nat.le_of_ble_eq_true rfl, Nat.le_of_ble_eq_true rfl⟩) ⟨hBlindL, fun U hU hW => ⟨rfl, by rw [hU], by rw [hU]; exact hP, va_K.moved hW.alike hKJ, by rw [hU]; exact ⟨f, hO⟩, zX.call hX9 hS hU hW⟩⟩ rfl rfl hls rfl (lv_room hrest) hdec ⟨lw_c, lw_s⟩) hS (fun q h1 h2 => by subst h2; exact hho) (fun q h2 => by subst h2; exact hho) (fun r9 u9 t9 H1 locs ht9 hvm hw9 hB9 hz1 hk1 hS1 => ?_)
  rw [ht9] at hB9
  refine kk r9 H1 locs ⟨hP.kept (fun k q hq => ?_), hinv, hS1, hB9⟩
  obtain ⟨q1, q2⟩ := zW_mem hq
  exact hk1 q.1 (hP k q hq).lt (fun z => (hadr k q1).2 (q2.symm.trans z))
end LWM
