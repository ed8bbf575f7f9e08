/-! THE CLAIM OUT OF ONE WALK OF THE LAW'S BODY. Your part is whole_start (and what it stands on); all else here is the same for every law, but numbers. -/
noncomputable def R_law : String := "DreamGuardLaw"
noncomputable def lw_P (b : Addr) (xs : List Int32) (args : Array Value) (s : State) : Prop := args = #[.ref b] ∧ s.IntsAt b xs ∧ xs.length ≤ 3072 ∧ (Jvm.Cond.and given_1 narrow_1).before args s = true
noncomputable def lw_Q (_ : Array Value) (s : State) (o : Outcome) (t : State) : Prop := o = .returned (some (.int 1)) ∧ Framed s o t [] 601024 7293034
noncomputable def lw_Z (below : List Frame) (a : Array Value) (s : State) : State → Prop := fun t => ∃ o, t.status = .running ∧ Ended t below o ∧ lw_Q a s o t
/-- the law's own end, with 1 on the stack, nothing written that was there before, its room as the claim has it -/
theorem lw_ret {p : Program} {l : Launch} {e : Env} {s : State} {m : MethodId} {below : List Frame} {meth : Method} {c : Code} {b : Nat} (hx : p.tables.exec = Jvm.exec) (hb : c.code = code) (hr : meth.sig.returnType = ret) (hlocks : meth.locks = false) {pc : Nat} {H : Heap} {ls : Array Slot} (hdg : decode code pc = .ok (.ireturn, 1)) : W p l e room_1 s m #[Value.ref b] below meth c H [] 601024 7293034 (lw_Z below #[Value.ref b] s) (F0 m pc ls [.int 1]) := by
  intro T hT X
  obtain ⟨fs, hret, hrun, hended, hW, hframe⟩ := X.leave (v := some (.int 1)) (hlocks := hlocks) (fun h => by rw [hr] at h; cases h)
  have hmeth' : T.vm.method? m = some meth := X.method'
  refine ⟨T.setFrames fs, ?_, .returned (some (.int 1)), hrun, hended, rfl, ⟨_, rfl⟩, hW, hframe⟩
  jvm_step X.here [X.here.top, hx, hb, hdg, hmeth', hr, ret, narrow_b1]
  (try refine ⟨rfl, ?_⟩); (try refine ⟨rfl, ?_⟩)
  first | (intro acts; rw [hret _ acts rfl rfl rfl]) | rw [hret _ _ rfl rfl rfl]
  exact Steps.refl _
/-- what holds at the law's entry: the machine, the code, the tables' words (any of lw_tbl by 'hts w (by decide +kernel)'), the script of L ints xs at the cell b, what the Statement gives of the start (any of its parts by flat_of_before) -/
noncomputable def lw_At (p : Program) (s : State) (m : MethodId) (meth : Method) (c : Code) (b L : Nat) (xs : Nat → Int32) : Prop :=
  p.tables.exec = Jvm.exec ∧ c.code = code ∧ meth.sig.returnType = ret ∧ c.maxLocals = 7 ∧ s.vm.findClass R_law = some m.cls ∧ (∀ w ∈ lw_tbl, w.before #[Value.ref b] s = true) ∧ va_X b L xs s s.heap ∧ b < s.heap.size ∧ meth.locks = false ∧ (Jvm.Cond.and given_1 narrow_1).before #[Value.ref b] s = true
/-! the law's calls -/
theorem yfin_N : ∀ k, 441 ≤ k → ∃ t n r, 4 ≤ t ∧ yTab k = .inr (t, n, r) := by
  intro k hk
  by_cases h : k < 453
  · have := yAll (f := fun j => match yTab (j + 441) with
      | .inr (t, _, _) => decide (4 ≤ t)
      | _ => false) (n := 12) (by decide +kernel) (show k - 441 < 12 by omega)
    try simp only at this
    rw [Nat.sub_add_cancel hk] at this
    split at this
    case h_1 t n r e => exact ⟨t, n, r, of_decide_eq_true this, e⟩
    case h_2 => cases this
  · exact ⟨7, 0, [], by decide, (yReg_d (by omega)).2⟩
theorem yfin_long : ∀ (k ci : Nat) (fk : List Nat) (fi j : Nat), yTab k = .inl (ci, fk) → fk[fi]? = some 1 → fk[j]? = some 1 → j = fi := by
  intro k ci fk fi j ht h1 h2
  have hk : k < 453 := by
    rcases Nat.lt_or_ge k 453 with q | q
    · exact q
    · rw [(yReg_d q).2] at ht
      cases ht
  have := yAll (f := fun k => match yTab k with
    | .inl (_, fk) => (List.range fk.length).all (fun a => (List.range fk.length).all (fun b => !(decide (fk[a]? = some 1) && decide (fk[b]? = some 1)) || decide (b = a)))
    | _ => true) (n := 453) (by decide +kernel) hk
  try simp only at this
  rw [ht] at this
  have a1 := List.all_eq_true.mp (List.all_eq_true.mp this fi (List.mem_range.mpr (List.getElem?_eq_some_iff.mp h1).1)) j (List.mem_range.mpr (List.getElem?_eq_some_iff.mp h2).1)
  rw [decide_eq_true h1, decide_eq_true h2] at a1
  simpa using a1
theorem yfin_99 : ∀ k fk, yTab k ≠ .inl (99, fk) := by
  intro k fk ht
  have hk : k < 453 := by
    rcases Nat.lt_or_ge k 453 with q | q
    · exact q
    · rw [(yReg_d q).2] at ht
      cases ht
  have := yAll (f := fun k => match yTab k with
    | .inl (ci, _) => !decide (ci = 99)
    | _ => true) (n := 453) (by decide +kernel) hk
  try simp only at this
  rw [ht] at this
  cases this
theorem yWn {l : Launch} {cI cZ cQ cG : ClassId} {dC : Nat → ClassId} {dI : Nat → Nat → Nat} {ad : Nat → Nat} (hinj : zInj ad 441) : ∀ n, zWn l yTab yPI yMY yMC yMl yMr yFld yKI yKL yGst yLdS yFldS yAcp yCal cI cZ cQ cG dC dI ad 441 yALL yGl ySl n := zWn_allD yOk_I yOk_L yOk_D yALL_good yfin_N yfin_long hinj yfin_99 (by decide +kernel)
/-- what is fixed in the law's loop -/
noncomputable def lwK (l : Launch) (cI cZ cQ cG cJ : ClassId) (dC : Nat → ClassId) (dI : Nat → Nat → Nat) (ad : Nat → Nat) (ho sa : Nat) (s : State) : Prop :=
  va_K (dC, dI) vwCl (hTyJ cI cZ cQ cG cJ) s ∧ zInj ad 441 ∧ (∀ i, i < 441 → s.heap.size ≤ ad i ∧ ad i ≠ ho) ∧ s.heap.size ≤ ho ∧ zTT yTab yGl ySl ad (fun q => s.heap.size ≤ q) s s.heap ∧ (vk_R "DreamGuard" 196 zTx sa s ∧ vx_Zq Bundle.tN "UNASSIGNED_STACK" Bundle.steD (fun q => s.heap.size ≤ q) s s.heap ∧ vx_Zq Bundle.tN "SUPPRESSED_SENTINEL" Bundle.listD (fun q => s.heap.size ≤ q) s s.heap ∧ zF s) ∧ l.stackTraces = false
/-- what holds between two calls of the loop -/
noncomputable def lwI (cI cZ cQ cG cJ : ClassId) (dC : Nat → ClassId) (dI : Nat → Nat → Nat) (ad : Nat → Nat) (ho : Nat) (s : State) (h : zH) (H : Heap) (locs : List Loc) : Prop :=
  va_P (dC, dI) vwCl (zW yTab cI cZ cQ cG ad 441 h) H ∧ yInv h ∧ va_S (fun q => s.heap.size ≤ q) s.heap H locs ∧ hOut cJ dC dI ho H
section LWC
variable {p : Program} {l : Launch} {e : Env} {s : State} {m : MethodId} {below : List Frame} {meth : Method} {c : Code} {b L : Nat} {xs : Nat → Int32} {cI cZ cQ cG cJ : ClassId} {dC : Nat → ClassId} {dI : Nat → Nat → Nat} {ad : Nat → Nat} {ho sa : Nat} {h : zH} {H : Heap} {locs : List Loc} {cells slots pc : Nat} {Q : State → Prop} {ls : Array Slot}
set_option maxHeartbeats 4000000 in
/-- a call of a public method whose run is known -/
theorem lw_call (C0 : lw_At p s m meth c b L xs) (X : lwK l cI cZ cQ cG cJ dC dI ad ho sa s) (hI : lwI cI cZ cQ cG cJ dC dI ad ho s h H locs) (lw_c : cells ≤ 601024) (lw_s : slots ≤ 7293034) {n mid idx na kc k : Nat} {as : List zV} {x : Int32} {h' : zH} (hrun : yrun n 60 mid (.inr (.inr k) :: as) h = some (some (.inl x), h')) (hI' : yInv h')
    (hz : (mid, na, kc) ∈ yCeL) (hkc : kc < 99) (hlk : Cond.methodLink RL idx (yMY mid) ∈ yALL) (hlen : as.length + 1 = na) (hrc : zrcv yTab kc (.inr (.inr k) :: as) = true) (hsum : ((.inr (.inr k) :: as : List zV).map zcat).sum ≤ yMl mid) (hdec : decode code pc = .ok (.invokevirtual idx, 3)) {st0 rest : List Value} (hst : st0 = (as.map (zv ad)).reverse ++ .ref (ad k) :: rest) (hrest : (rest.map fun v => v.category).sum ≤ 8) (hls : ls.size = 7)
    (kk : ∀ (H' : Heap) (locs' : List Loc), lwI cI cZ cQ cG cJ dC dI ad ho s h' H' locs' → W p l e room_1 s m #[Value.ref b] below meth c H' locs' cells slots Q (F0 m (pc + 3) ls (.int x :: rest))) : W p l e room_1 s m #[Value.ref b] below meth c H locs cells slots Q (F0 m pc ls st0) := by
  obtain ⟨hx, hb, hr, hml, hown0, hts0, hX, hbl, hlocks, hgv⟩ := C0
  have hown : s.vm.findClass RL = some m.cls := hown0
  obtain ⟨hKJ, hinj, hadr, hho, hT, -, -⟩ := X
  have hK := hK4 hKJ
  obtain ⟨hP, hinv, hS, f, hO⟩ := hI
  have hts : ∀ w ∈ yALL, w.before #[Value.ref b] s = true := fun w hw => hts0 w (yALL_in w hw)
  have hc := yCe_all _ hz
  unfold yCeF at hc
  simp only [Bool.and_eq_true, Bool.or_eq_true, decide_eq_true_eq] at hc
  obtain ⟨-, c1, c2, c3, c4, c5, c6, c7⟩ := hc
  have c2 : plainName (yMY mid).cls = true := by
    rcases c2 with c2 | ⟨c2, -⟩
    · exact c2
    · omega
  rw [if_neg (by omega)] at c7
  simp only [Bool.and_eq_true, decide_eq_true_eq] at c7
  obtain ⟨-, d2, d3, d4, d5⟩ := c7
  rw [if_neg (by omega)] at d5
  rw [Bool.and_eq_true] at d5
  have d6 := d5.2
  have hM := zMet_of (yWn (l := l) (cI := cI) (cZ := cZ) (cQ := cQ) (cG := cG) (dC := dC) (dI := dI) hinj n) hrun c2 hsum H.size
  have hfree : ∀ q, zA ad 441 H.size q → s.heap.size ≤ q := fun q hq => by
    rcases hq with ⟨id, h1, rfl⟩ | h1
    · exact (hadr id h1).1
    · exact Nat.le_trans hS.1 h1
  have hrecv : ∃ cell : Cell, H[ad k]? = some cell ∧ cell.vm.isStatics = false ∧ s.vm.findClass (yMY mid).cls = some cell.cls := by
    cases ht : yTab k with
    | inl z =>
      obtain ⟨ci, fk⟩ := z
      simp only [zrcv, ht, beq_iff_eq] at hrc
      subst hrc
      have hk : k < 441 := by
        rcases Nat.lt_or_ge k 441 with q | q
        · exact q
        · obtain ⟨t, n2, r2, -, e3⟩ := yfin_N k q
          rw [ht] at e3
          cases e3
      split at d6
      case h_1 q hq =>
        have := va_recv hK hP hq (show (zW yTab cI cZ cQ cG ad 441 h)[k]? = some (ad k, .inr (ci, zfs ad h k fk)) by rw [zW_at hk, zce_obj ht])
        rw [of_decide_eq_true d6] at this
        exact this
      case h_2 => cases d6
    | inr z =>
      obtain ⟨t, n2, r2⟩ := z
      simp only [zrcv, ht, Bool.and_eq_true, beq_iff_eq] at hrc
      omega
  have hr9 := va_runV (l := l) (e := e) (R := room_1) (below := below) (meth := meth) (locs := locs) (cells := cells) (slots := slots) (nL := 7) (As := as.map (zv ad)) (rest := rest) (g := F0 m pc ls st0) ⟨hx, hb, hml, hown, hts⟩ hM (cwV (na - 1) hts (zgood yALL_good (yhas_in c1) [.methodLink RL idx (yMY mid), .instanceMethod (yMY mid), .selects (yMY mid).cls (yMY mid) (yMY mid), .initialized (yMY mid).cls] (by
      intro w hw
      simp only [List.mem_cons, List.not_mem_nil, or_false] at hw
      rcases hw with rfl | rfl | rfl | rfl
      · exact hlk
      · exact yhas_in d2
      · exact yhas_in d3
      · exact yhas_in c4)) rfl rfl rfl ⟨rfl, c5, c6, d4⟩ ⟨by decide, by
        show 8 + (yMl mid + 11) + (40 * 60 + 200) ≤ 84000
        omega⟩) ⟨zBlindM, hrecv, fun U hU hWm => ⟨rfl, by rw [hU], by rw [hU]; exact hP, va_K.moved hWm.alike hK, hT.call hS hfree hU hWm⟩⟩ rfl (by rw [List.length_map]; omega) hls hst (lv_room hrest) hdec ⟨by
        show cells + 0 ≤ 601024
        exact lw_c, by
        show slots + 0 ≤ 7293034
        exact lw_s⟩
  intro T hT9 X9
  obtain ⟨v, st₀, t, T', L9, h0, X', hL, e1, e2, ⟨⟨r, h2, hv, ⟨rfl, rfl⟩, hp⟩, hz9, hk9⟩, st⟩ := hr9 T hT9 X9
  cases hv
  rw [h0] at hz9 hk9
  have hne : ¬ zA ad 441 H.size ho := fun q => by
    rcases q with ⟨id, h1, h2⟩ | h1
    · exact (hadr id h1).2 h2.symm
    · exact absurd (hO 0 _ rfl).lt (Nat.not_lt.mpr h1)
  obtain ⟨t2, a1, b1⟩ := kk T'.heap (locs ++ L9) ⟨by rw [e1]; exact hp, hI', ⟨Nat.le_trans hS.1 (by rw [e1]; exact hz9), fun q h1 h2 => by rw [e1, hk9 q (Nat.lt_of_lt_of_le h1 hS.1) (fun z => h2 (hfree q z))]; exact hS.2.1 q h1 h2, fun q hq => by
      rcases List.mem_append.mp hq with h | h
      · exact hS.2.2 q h
      · exact hfree _ (hL q h)⟩, f, hO.kept (fun k q hq => by
      have h1 : k < 1 := (List.getElem?_eq_some_iff.mp hq).1
      rw [show k = 0 by omega] at hq
      cases hq
      rw [e1]
      exact hk9 ho (hO 0 _ rfl).lt hne)⟩ T' rfl X'
  exact ⟨t2, st t2 a1, b1⟩
/-- a call of a method that is well -/
theorem lw_pub (C0 : lw_At p s m meth c b L xs) (X : lwK l cI cZ cQ cG cJ dC dI ad ho sa s) (hI : lwI cI cZ cQ cG cJ dC dI ad ho s h H locs) (hsn : h.1 406 18 = h.1 440 26) (lw_c : cells ≤ 601024) (lw_s : slots ≤ 7293034) {mid idx na kc k : Nat} {as : List zV} (hg : yGood 60 mid (.inr (.inr k) :: as) h)
    (hz : (mid, na, kc) ∈ yCeL) (hkc : kc < 99) (hlk : Cond.methodLink RL idx (yMY mid) ∈ yALL) (hlen : as.length + 1 = na) (hrc : zrcv yTab kc (.inr (.inr k) :: as) = true) (hsum : ((.inr (.inr k) :: as : List zV).map zcat).sum ≤ yMl mid) (hdec : decode code pc = .ok (.invokevirtual idx, 3)) {st0 rest : List Value} (hst : st0 = (as.map (zv ad)).reverse ++ .ref (ad k) :: rest) (hrest : (rest.map fun v => v.category).sum ≤ 8) (hls : ls.size = 7)
    (kk : ∀ (x : Int32) (h : zH) (H' : Heap) (locs' : List Loc), lwI cI cZ cQ cG cJ dC dI ad ho s h H' locs' → h.1 406 18 = h.1 440 26 → W p l e room_1 s m #[Value.ref b] below meth c H' locs' cells slots Q (F0 m (pc + 3) ls (.int x :: rest))) : W p l e room_1 s m #[Value.ref b] below meth c H locs cells slots Q (F0 m pc ls st0) := by
  obtain ⟨n, x, h', r1, r2, r3, r4⟩ := hg
  exact lw_call C0 X hI lw_c lw_s r1 r2 hz hkc hlk hlen hrc hsum hdec hst hrest hls (fun H' locs' hI' => kk x h' H' locs' hI' (by rw [r3, r4]; exact hsn))
end LWC
