theorem zi_face : ∀ w ∈ zAtS.filter (fun w => !goodWord w), w ∈ lw_tbl := by decide +kernel
/-! the law from its entry -/
set_option maxHeartbeats 8000000 in
set_option maxRecDepth 100000 in
theorem whole_start {p : Program} {e : Env} {s : State} {m : MethodId} {below : List Frame} {meth : Method} {c : Code} (l : Launch) (hlt : l.stackTraces = false) {b L : Nat} {xs : Nat → Int32} (hL : L ≤ 3072) (C0 : lw_At p s m meth c b L xs) : W p l e room_1 s m #[Value.ref b] below meth c s.heap [] 0 0 (lw_Z below #[Value.ref b] s) (entryFrame m ([Value.ref b] : List Value).toArray 7) := by
  obtain ⟨hx, hb, hr, hml, hown0, hts0, hX, hbl, hlocks, hgv⟩ := id C0
  have hown : s.vm.findClass RL = some m.cls := hown0
  have hts : ∀ w ∈ yALL, w.before #[Value.ref b] s = true := fun w hw => hts0 w (yALL_in w hw)
  have hs9 := flat_of_before _ hgv
  have hA : ∀ q : Nat, s.heap.size ≤ q → s.heap.size ≤ q := fun q h => h
  have hnA : ∀ a : Nat, a < s.heap.size → ¬ (s.heap.size ≤ a) := fun a h => Nat.not_le.mpr h
  obtain ⟨kc0, ki0, kk0⟩ := u_known (C := RX0) (T := TX0) (N := 3) (n := 3) hts yu0 (hts _ (yWat_in (i := 300) (by decide +kernel)))
  obtain ⟨kc1, ki1, kk1⟩ := u_known (C := RX1) (T := TX1) (N := 5) (n := 5) hts yu1 (hts _ (yWat_in (i := 212) (by decide +kernel)))
  obtain ⟨kc2, ki2, kk2⟩ := u_known (C := RX2) (T := TX2) (N := 6) (n := 6) hts yu2 (hts _ (yWat_in (i := 156) (by decide +kernel)))
  obtain ⟨kc3, ki3, kk3⟩ := u_known (C := RX3) (T := TX3) (N := 6) (n := 6) hts yu3 (hts _ (yWat_in (i := 190) (by decide +kernel)))
  obtain ⟨kc4, ki4, kk4⟩ := u_known (C := RX4) (T := TX4) (N := 3) (n := 3) hts yu4 (hts _ (yWat_in (i := 176) (by decide +kernel)))
  obtain ⟨kc5, ki5, kk5⟩ := u_known (C := RX5) (T := TX5) (N := 12) (n := 12) hts yu5 (hts _ (yWat_in (i := 314) (by decide +kernel)))
  obtain ⟨kc6, ki6, kk6⟩ := u_known (C := RX6) (T := TX6) (N := 4) (n := 4) hts yu6 (hts _ (yWat_in (i := 354) (by decide +kernel)))
  obtain ⟨kc7, ki7, kk7⟩ := u_known (C := RX7) (T := TX7) (N := 6) (n := 6) hts yu7 (hts _ (yWat_in (i := 397) (by decide +kernel)))
  obtain ⟨kc8, ki8, kk8⟩ := u_known (C := RX8) (T := TX8) (N := 10) (n := 10) hts yu8 (hts _ (yWat_in (i := 217) (by decide +kernel)))
  obtain ⟨kc9, ki9, kk9⟩ := u_known (C := RX9) (T := TX9) (N := 7) (n := 7) hts yu9 (hts _ (yWat_in (i := 375) (by decide +kernel)))
  obtain ⟨kc10, ki10, kk10⟩ := u_known (C := RX10) (T := TX10) (N := 3) (n := 3) hts yu10 (hts _ (yWat_in (i := 140) (by decide +kernel)))
  obtain ⟨kc11, ki11, kk11⟩ := u_known (C := RX11) (T := TX11) (N := 20) (n := 20) hts yu11 (hts _ (yWat_in (i := 132) (by decide +kernel)))
  obtain ⟨kc12, ki12, kk12⟩ := u_known (C := RX12) (T := TX12) (N := 56) (n := 56) hts yu12 (hts _ (yWat_in (i := 1017) (by decide +kernel)))
  obtain ⟨dC, dI, hKc⟩ : ∃ (dC : Nat → ClassId) (dI : Nat → Nat → Nat), ∀ (k : Nat) (q : vw_C), vwCl[k]? = some q → u_Kn s q.1 q.2.1 q.2.2 (dC k) (dI k) := by
    refine ⟨fun k => match k with | 0 => kc0 | 1 => kc1 | 2 => kc2 | 3 => kc3 | 4 => kc4 | 5 => kc5 | 6 => kc6 | 7 => kc7 | 8 => kc8 | 9 => kc9 | 10 => kc10 | 11 => kc11 | _ => kc12, fun k => match k with | 0 => ki0 | 1 => ki1 | 2 => ki2 | 3 => ki3 | 4 => ki4 | 5 => ki5 | 6 => ki6 | 7 => ki7 | 8 => ki8 | 9 => ki9 | 10 => ki10 | 11 => ki11 | _ => ki12, ?_⟩
    intro k q hq
    match k, hq with
    | 0, hq => cases hq; exact kk0
    | 1, hq => cases hq; exact kk1
    | 2, hq => cases hq; exact kk2
    | 3, hq => cases hq; exact kk3
    | 4, hq => cases hq; exact kk4
    | 5, hq => cases hq; exact kk5
    | 6, hq => cases hq; exact kk6
    | 7, hq => cases hq; exact kk7
    | 8, hq => cases hq; exact kk8
    | 9, hq => cases hq; exact kk9
    | 10, hq => cases hq; exact kk10
    | 11, hq => cases hq; exact kk11
    | 12, hq => cases hq; exact kk12
    | k + 13, hq => simp [vwCl] at hq
  obtain ⟨cI, aI, fI⟩ := zArr (hts (.arrayClass .int) (yWat_in (i := 154) (by decide +kernel)))
  obtain ⟨cZ, aZ, fZ⟩ := zArr (hts (.arrayClass .boolean) (yWat_in (i := 174) (by decide +kernel)))
  have hAO : va_AO RX8 s := va_AO.of (hts0 (.arrayOver (.object RX8)) (by decide +kernel))
  have hAA : va_AOA .int s := va_AOA.of (hts0 (.arrayOver (.array .int)) (by decide +kernel))
  obtain ⟨comp1, cQ, k1, g1, -, g3, g4, g5⟩ := Cond.arrayOver_spec hAO
  obtain ⟨comp2, cG, k2, f1, f2, f3, f4⟩ := hAOA hAA
  have hK : va_K (dC, dI) vwCl (zTy cI cZ cQ cG) s := ⟨hKc, fun k q h => by
    match k, h with
    | 0, h => cases h; exact ⟨aI, fI⟩
    | 1, h => cases h; exact ⟨aZ, fZ⟩
    | 2, h => cases h; exact ⟨fun N z => ⟨(fun k h => by cases h), k1, g3, comp1, g4⟩, k1, comp1, g3, g4, g1, g5⟩
    | 3, h => cases h; exact ⟨fun N z => ⟨(fun k h => by cases h), k2, f2, comp2, f3⟩, f4⟩
    | k + 4, h => simp [zTy] at h⟩
  have hG : kG s := ⟨fun w hw => by
    unfold kNest at hw
    simp only [List.mem_cons, List.not_mem_nil, or_false] at hw
    rcases hw with rfl | rfl | rfl | rfl | rfl | rfl | rfl
    · exact va_Nw.of rfl (hts0 kn0 (by decide +kernel))
    · exact va_Nw.of rfl (hts0 kn1 (by decide +kernel))
    · exact va_Nw.of rfl (hts0 kn2 (by decide +kernel))
    · exact va_Nw.of rfl (hts0 kn3 (by decide +kernel))
    · exact va_Nw.of rfl (hts0 kn4 (by decide +kernel))
    · exact va_Nw.of rfl (hts0 kn5 (by decide +kernel))
    · exact va_Nw.of rfl (hts0 kn6 (by decide +kernel)), hAO, hAA⟩
  obtain ⟨st, hT⟩ := hstatics hts0 hgv
  obtain ⟨sa, _, _, _, hsa, -⟩ := Cond.exactly_spec (hs9 (.exactly (.string "DreamGuard" 196) "java/lang/String") (by decide +kernel))
  have hX9 : vk_R "DreamGuard" 196 zTx sa s ∧ vx_Zq Bundle.tN "UNASSIGNED_STACK" Bundle.steD (fun q => s.heap.size ≤ q) s s.heap ∧ vx_Zq Bundle.tN "SUPPRESSED_SENTINEL" Bundle.listD (fun q => s.heap.size ≤ q) s s.heap ∧ zF s :=
    ⟨vk_R.of (hts0 (.stringRef "DreamGuard" 196 zTx) (by decide +kernel)) hsa, vx_Zqof (hts0 (.laysStatic Bundle.tN "UNASSIGNED_STACK" Bundle.steD) (by decide +kernel)) (hts0 (.initialized Bundle.tN) (by decide +kernel)) (hs9 (.isRef (.static Bundle.tN "UNASSIGNED_STACK" Bundle.steD)) (by decide +kernel)) hnA, vx_Zqof (hts0 (.laysStatic Bundle.tN "SUPPRESSED_SENTINEL" Bundle.listD) (by decide +kernel)) (hts0 (.initialized Bundle.tN) (by decide +kernel)) (hs9 (.isRef (.static Bundle.tN "SUPPRESSED_SENTINEL" Bundle.listD)) (by decide +kernel)) hnA, zF.of (A := #[Value.ref b]) (fun w hw => hts0 w (zi_face w hw))⟩
  have hS : va_S (fun q => s.heap.size ≤ q) s.heap s.heap [] := va_S.rf
  have hP : va_P (dC, dI) vwCl ([] : va_W) s.heap := fun k q h => by simp at h
  have hD : va_D (fun q => s.heap.size ≤ q) ([] : va_W) := ⟨fun i j p q h => by simp at h, fun k q h => by simp at h⟩
  have hl := lv_entry ([.ref b]) (n := 7) (Nat.le_of_ble_eq_true rfl)
  rw [lg_entry_eq]
  generalize (lg_sl ([.ref b]) ++ List.replicate (7 - (lg_sl ([.ref b])).length) Slot.unset).toArray = ls at hl ⊢
  have hl : lv_has ls 7 [(0, .ref b)] := hl
  refine va_new (ci := 11) (fs := (kDf 11).map (kv (fun _ => 0))) (C := RX11) (T := TX11) (N := 20) hx hb hts yu11 tyX11 tyX11_ok hown (hts _ (yWat_in (i := 131) (by decide +kernel))) (hts _ (yWat_in (i := 132) (by decide +kernel))) (hts _ (yWat_in (i := 109) (by decide +kernel))) hK hP hD hS hA rfl (fun j hj => kdf11 _ j hj) (by decide) (by decide) dL_law_0 (fun q1 H hP hD hS => ?_)
  have e1 : kW cI cZ cQ cG (fun _ => q1) [.inl (11, kDf 11)] = [(q1, .inr (11, (kDf 11).map (kv (fun _ => 0))))] := by
    apply List.ext_getElem?
    intro k
    rw [kW_get]
    match k with
    | 0 => rfl
    | k + 1 => rfl
  have hP : va_P (dC, dI) vwCl (kW cI cZ cQ cG (fun _ => q1) [.inl (11, kDf 11)]) H := by rw [e1]; exact hP
  have hD : va_D (fun q => s.heap.size ≤ q) (kW cI cZ cQ cG (fun _ => q1) [.inl (11, kDf 11)]) := by rw [e1]; exact hD
  refine lv_dup hx hb dL_law_3 rfl ?_
  have free : ∀ (ad : Nat → Nat) (cs : List kC) (H : Heap) (locs : List Loc), va_D (fun q => s.heap.size ≤ q) (kW cI cZ cQ cG ad cs) → va_S (fun q => s.heap.size ≤ q) s.heap H locs → ∀ q, zA ad cs.length H.size q → s.heap.size ≤ q := fun ad cs H locs hD hS q hq => by
    rcases hq with ⟨id, h1, rfl⟩ | h1
    · exact hD.2 id _ (kW_at (List.getElem?_eq_getElem h1))
    · exact Nat.le_trans hS.1 h1
  have fr1 := free _ _ H _ hD hS
  refine va_callv (va_runI (l := l) (As := []) (rest := [.ref q1]) ⟨hx, hb, hml, hown, hts⟩ (kMet_of (kWn_all (l := l) (cI := cI) (cZ := cZ) (cQ := cQ) (cG := cG) (dC := dC) (dI := dI) kOkI_ok kOkN_ok kOkF_ok kOkA_ok kOkC_ok yALL_good _) kR1 (by decide +kernel) (by decide +kernel) (by decide +kernel) (fun _ => q1) H.size) (cwI 0 hts (kgood yALL_good (yWat_in (i := 135) (by decide +kernel))) rfl rfl rfl (hts _ (yWat_in (i := 109) (by decide +kernel))) (hts _ (yWat_in (i := 133) (by decide +kernel))) (hts _ (yWat_in (i := 134) (by decide +kernel))) rfl (by decide +kernel) ⟨by decide, by decide⟩) ⟨kBlind, fun U hU hW => ⟨rfl, by rw [hU], by rw [hU]; exact hP, va_K.moved hW.alike hK, hD.weaken (fun _ _ _ _ => trivial), hG.warm hW⟩⟩ rfl rfl hl.1 rfl (lv_room (Nat.le_of_ble_eq_true rfl)) dL_law_4 ⟨by
      show 0 + 1 + (kF1.length - 1) ≤ 601024
      rw [kF1_n.1]
      decide, by
      show 0 + 20 + (ks kF1 - 20) ≤ 7293034
      rw [kF1_n.2.1]
      decide⟩) hS (fun q _ h => fr1 q h) fr1 (fun u9 t9 H1 locs ht9 hvm _ hB9 hz1 hk1 hS => ?_)
  obtain ⟨ad2, b1, hP, hD⟩ := hB9
  rw [ht9] at hP
  replace hD := hD.weaken (fun _ _ _ h => fr1 _ h)
  clear hk1 hz1 hvm ht9
  have a20 : ad2 0 = q1 := b1 0 (by decide)
  refine W.widen (k := 407) (n := 6707) (by
    show 0 + 1 + (kF1.length - 1) ≤ 407
    rw [kF1_n.1]
    decide) (by
    show 0 + 20 + (ks kF1 - 20) ≤ 6707
    rw [kF1_n.2.1]
    decide) ?_
  refine lv_astore_n (lv' := [(1, .ref q1), (0, .ref b)]) hx hb dL_law_7 rfl hl (by decide) rfl (fun ls hl => ?_)
  refine va_new (ci := 12) (fs := (kDf 12).map (kv ad2)) (C := RX12) (T := TX12) (N := 56) hx hb hts yu12 tyX12 tyX12_ok hown (hts _ (yWat_in (i := 1016) (by decide +kernel))) (hts _ (yWat_in (i := 1017) (by decide +kernel))) (hts _ (yWat_in (i := 121) (by decide +kernel))) hK hP hD hS hA rfl (fun j hj => kdf12 _ j hj) (by decide) (by decide) dL_law_8 (fun q2 H hP hD hS => ?_)
  obtain ⟨ad3, ead3⟩ : ∃ ad3 : Nat → Nat, ad3 = kext ad2 kF1.length (fun _ => q2) := ⟨_, rfl⟩
  have e3 : kW cI cZ cQ cG ad3 (kF1 ++ [.inl (12, kDf 12)]) = kW cI cZ cQ cG ad2 kF1 ++ [(q2, .inr (12, (kDf 12).map (kv ad2)))] := by
    rw [ead3, kW_app kF1_n.2.2.2.2]
    refine congrArg (fun z => kW cI cZ cQ cG ad2 kF1 ++ z) ?_
    apply List.ext_getElem?
    intro k
    rw [List.getElem?_mapIdx]
    match k with
    | 0 => rfl
    | k + 1 => rfl
  rw [← e3] at hP hD
  have a3q : ad3 407 = q2 := by
    have : kext ad2 kF1.length (fun _ => q2) (0 + kF1.length) = q2 := kext_ge 0
    rw [kF1_n.1] at this
    rw [ead3, kF1_n.1]
    exact this
  have a30 : ad3 0 = q1 := by
    rw [ead3, kext_lt 0 (by rw [kF1_n.1]; decide)]
    exact a20
  refine lv_dup hx hb dL_law_11 rfl ?_
  have fr2 := free _ _ H _ hD hS
  have n408 : (kF1 ++ [(.inl (12, kDf 12) : kC)]).length = 408 := by
    rw [List.length_append, kF1_n.1]
    rfl
  have s408 : ks (kF1 ++ [(.inl (12, kDf 12) : kC)]) = 6763 := by
    rw [ks_app, kF1_n.2.1]
    rfl
  refine va_callv (va_runI (l := l) (b := ad3 407) (As := []) (rest := [.ref q2]) ⟨hx, hb, hml, hown, hts⟩ (kMet_of (kWn_all (l := l) (cI := cI) (cZ := cZ) (cQ := cQ) (cG := cG) (dC := dC) (dI := dI) kOkI_ok kOkN_ok kOkF_ok kOkA_ok kOkC_ok yALL_good _) kR2 (by decide +kernel) (by decide +kernel) (by decide +kernel) ad3 H.size) (cwI 0 hts (kgood yALL_good (yWat_in (i := 1020) (by decide +kernel))) rfl rfl rfl (hts _ (yWat_in (i := 121) (by decide +kernel))) (hts _ (yWat_in (i := 1018) (by decide +kernel))) (hts _ (yWat_in (i := 1019) (by decide +kernel))) rfl (by decide +kernel) ⟨by decide, by decide⟩) ⟨kBlind, fun U hU hW => ⟨rfl, by rw [hU], by rw [hU]; exact hP, va_K.moved hW.alike hK, hD.weaken (fun _ _ _ _ => trivial), hG.warm hW⟩⟩ rfl rfl hl.1 (by rw [a3q]; rfl) (lv_room (Nat.le_of_ble_eq_true rfl)) dL_law_12 ⟨by
      rw [n408, kF1_n.2.2.1]
      decide, by
      rw [s408, kF1_n.2.2.2.1]
      decide⟩) hS (fun q _ h => fr2 q h) fr2 (fun u9 t9 H1 locs ht9 hvm _ hB9 hz1 hk1 hS => ?_)
  obtain ⟨ad4, b4, hP, hD⟩ := hB9
  rw [ht9] at hP
  replace hD := hD.weaken (fun _ _ _ h => fr2 _ h)
  clear hk1 hz1 hvm ht9
  rw [n408] at b4
  have a40 : ad4 0 = q1 := (b4 0 (by decide)).trans a30
  have a4q : ad4 407 = q2 := (b4 407 (by decide)).trans a3q
  refine W.widen (k := 500) (n := 29000) (by
    rw [n408, kF1_n.2.2.1]
    decide) (by
    rw [s408, kF1_n.2.2.2.1]
    decide) ?_
  refine lv_astore_n (lv' := [(2, .ref q2), (1, .ref q1), (0, .ref b)]) hx hb dL_law_15 rfl hl (by decide) rfl (fun ls hl => ?_)
  refine lv_iconst (v := 1) hx hb dL_law_16 (by decide) ?_
  refine va_newa (atype := .long) (ty := .long) (a0 := (1, .inr (.inl (fun _ => 0)))) hx hb (hts (.arrayClass .long) (yWat_in (i := 1531) (by decide +kernel))) rfl hK hP hD hS hA (fun _ => rfl) (by decide) (show (1 : Int32).toNatClampNeg = 1 by decide) (by decide) (by decide) (by decide) dL_law_17 (fun ho cJ H hKJ hPo hDo hS => ?_)
  refine lv_astore_n (lv' := [(3, .ref ho), (2, .ref q2), (1, .ref q1), (0, .ref b)]) hx hb dL_law_19 rfl hl (by decide) rfl (fun ls hl => ?_)
  refine lv_iconst (v := 0) hx hb dL_law_20 (by decide) ?_
  refine lv_istore (lv' := [(4, .int 0), (3, .ref ho), (2, .ref q2), (1, .ref q1), (0, .ref b)]) hx hb dL_law_21 hl (by decide) rfl (fun ls hl => ?_)
  have kl : (kW cI cZ cQ cG ad4 kF2).length = 441 := by
    have : (kW cI cZ cQ cG ad4 kF2).length = kF2.length := by unfold kW; exact List.length_mapIdx
    rw [this, kF1_n.2.2.1]
  have at1 : ∀ (k : Nat) (q : Nat × va_E), (kW cI cZ cQ cG ad4 kF2)[k]? = some q → (kW cI cZ cQ cG ad4 kF2 ++ [(ho, (.inl (cJ, 1, .inr (.inl (fun _ => 0))) : va_E))])[k]? = some q := fun k q hk => by
    rw [List.getElem?_append_left (List.getElem?_eq_some_iff.mp hk).1]
    exact hk
  have at2 : (kW cI cZ cQ cG ad4 kF2 ++ [(ho, (.inl (cJ, 1, .inr (.inl (fun _ => 0))) : va_E))])[441]? = some (ho, .inl (cJ, 1, .inr (.inl (fun _ => 0)))) := by
    rw [List.getElem?_append_right (by rw [kl]; decide), kl]
    rfl
  have hP4 : va_P (dC, dI) vwCl (kW cI cZ cQ cG ad4 kF2) H := fun k q hk => hPo k q (at1 k q hk)
  have hD4 : va_D (fun q => s.heap.size ≤ q) (kW cI cZ cQ cG ad4 kF2) := ⟨fun i j p q hi hj e9 => hDo.1 i j p q (at1 i p hi) (at1 j q hj) e9, fun k q hk => hDo.2 k q (at1 k q hk)⟩
  obtain ⟨hinj, hin⟩ := kinj (st := st) hD4
  have ad406 : kadr ad4 st 406 = q1 := (kadr_lt (by decide)).trans ((congrArg ad4 (show kPi 406 = 0 by decide +kernel)).trans a40)
  have ad440 : kadr ad4 st 440 = q2 := (kadr_lt (by decide)).trans ((congrArg ad4 (show kPi 440 = 407 by decide +kernel)).trans a4q)
  have hne : ∀ i, i < 441 → kadr ad4 st i ≠ ho := fun i hi e9 => by
    have b9 := yAll kPi_ok hi
    simp only [Bool.and_eq_true, decide_eq_true_eq] at b9
    rw [kadr_lt hi] at e9
    have hc9 : kF2[kPi i]? = some (kF2[kPi i]'(by rw [kF1_n.2.2.1]; exact b9.1)) := List.getElem?_eq_getElem _
    have := hDo.1 (kPi i) 441 _ _ (at1 _ _ (kW_at hc9)) at2 e9
    omega
  have X : lwK l cI cZ cQ cG cJ dC dI (kadr ad4 st) ho sa s := ⟨hKJ, hinj, fun i hi => ⟨hin i hi, hne i hi⟩, hDo.2 441 _ at2, hT ad4, hX9, hlt⟩
  have hI : lwI cI cZ cQ cG cJ dC dI (kadr ad4 st) ho s yH0 H locs := ⟨kstart hP4, yH0_inv, hS, fun _ => 0, fun k q hk => by
    have h1 : k < 1 := (List.getElem?_eq_some_iff.mp hk).1
    rw [show k = 0 by omega] at hk
    cases hk
    exact hPo 441 _ at2⟩
  have hl : lv_has ls 7 [(4, .int (nI 0)), (3, .ref ho), (2, .ref (kadr ad4 st 440)), (1, .ref (kadr ad4 st 406)), (0, .ref b)] := by
    rw [nI_0, ad406, ad440]
    exact hl
  refine W.widen (k := 1000 + 10 * 0) (n := 30000 + 100 * 0) (by decide) (by decide) ?_
  exact lw_loop C0 hL X L 0 (by omega) (by omega) yH0 H locs ls hI r0_H0 hl
set_option maxHeartbeats 4000000 in
theorem lw_walk (l : Launch) (hlt : l.stackTraces = false) (b : Addr) (xs : List Int32) : MetFree l x (headSpec (Jvm.Cond.code x code maxLocals ret :: tables_1) room_1) (lw_P b xs) (fun _ _ _ _ _ => True) lw_Q := by
  refine MetFree.of_bodyS (code := code) (maxLocals := maxLocals) (ret := ret) (by decide) ?_ ?_
  · intro args s m h hn
    obtain ⟨meth, c, h1, h2, h3, h4, h5, h6, -, -⟩ := Cond.code_spec hn (atoms_spec (ws := Jvm.Cond.code x code maxLocals ret :: tables_1) h _ List.mem_cons_self)
    exact ⟨meth, c, h1, h2, h3, h4, h5, h6⟩
  · intro p e s m args below meth c s₁ B hml0 hP _
    obtain ⟨rfl, hx, hbd, hgv⟩ := hP
    obtain ⟨scr, harrAt, hlist, hof, hsmall⟩ := hx
    obtain ⟨hcb, hkn, -, -⟩ := State.arrayAt?_spec harrAt
    have hown : s.vm.findClass R_law = some m.cls := findClass_of_methodNamed B.named
    have hts0 : ∀ c ∈ (Jvm.Cond.code x code maxLocals ret :: tables_1), c.before #[Value.ref b] s = true := atoms_spec (ws := Jvm.Cond.code x code maxLocals ret :: tables_1) B.pre
    have hts : ∀ w ∈ lw_tbl, w.before #[Value.ref b] s = true := k2_hts_sels lw_privs (fun w hw => hts0 w (List.mem_cons_of_mem _ hw)) lw_privs_ok
    have hml : c.maxLocals = 7 := B.maxLocals_eq (hts0 _ List.mem_cons_self)
    have X₀ : Stand p l e room_1 s m #[Value.ref b] below meth c s₁ [] 0 0 := Stand.of_body B
    have hh0 : s₁.heap = s.heap := by rw [B.state]; rfl
    have hsz : scr.slots.size = xs.length := by rw [← Array.length_toList, hlist, List.length_map]
    have hval : ∀ j : Nat, j < xs.length → scr.slots[j]? = some (.int (xs.getD j 0)) := fun j hj => by
      rw [← Array.getElem?_toList, hlist]
      simp [hj]
    have hbl : b < s.heap.size := (Array.getElem?_eq_some_iff.mp hcb).1
    have hX : va_X b xs.length (fun j => xs.getD j 0) s s.heap := ⟨scr, hcb, hof, hkn, hsz, hval⟩
    have K : W p l e room_1 s m #[Value.ref b] below meth c s₁.heap [] 0 0 (lw_Z below #[Value.ref b] s) (entryFrame m ([Value.ref b] : List Value).toArray 7) := by
      rw [hh0]
      exact whole_start l hlt hbd ⟨B.exec, B.bytes, B.returns, hml, hown, hts, hX, hbl, B.notSynchronized, hgv⟩
    obtain ⟨t, a1, o, b1, b2, b3⟩ := K s₁ rfl X₀
    exact ⟨t, o, a1, b1, b2, b3⟩
theorem lw_pre_spec {args : Array Value} {s : State} (h : (Jvm.Cond.and given_1 narrow_1).before args s = true) (hr : rest_1_c.before args s = true) : ∃ (b : Addr) (xs : List Int32), lw_P b xs args s := by
  have hs := flat_of_before _ h
  have hq := flat_of_before _ hr
  have hc : (Cond.count 1).before args s = true := hs _ (by decide +kernel)
  have harr : (Cond.arrayOf (.arg 0) .int).before args s = true := hs _ (by decide +kernel)
  have hle : (Cond.le (.length (.arg 0)) (.int 3072)).before args s = true := hs _ (by decide +kernel)
  have hlen : (Cond.isInt (.length (.arg 0))).before args s = true := hq _ (by decide +kernel)
  have hall : (Cond.all (.arg 0) (.isInt (.elem (.arg 0) (.index 0)))).before args s = true := hq _ (by decide +kernel)
  obtain ⟨b, xs, hb, hx⟩ := State.ints_of_pre rfl harr hlen hall
  have hsm : xs.length < 2 ^ 31 := hx.choose_spec.2.2.2
  have hev : (Term.length (.arg 0)).eval args s none [] s = some (.int xs.length.toInt32) := hx.length_eval hb
  have hv := Cond.le_ints hev (show (Term.int 3072).eval args s none [] s = some (.int 3072) from rfl)
  have hd : xs.length.toInt32 ≤ 3072 := by
    simpa [Cond.before, Cond.holds, hv] using hle
  have hN : xs.length ≤ 3072 := (Int32.ofNat_le_ofNat hsm (by decide)).mp (show Int32.ofNat xs.length ≤ Int32.ofNat 3072 from hd)
  exact ⟨b, xs, Cond.one_arg hc (show args[0]? = some (.ref b) from hb), hx, hN, h⟩
theorem lw_comes (l : Launch) (hlt : l.stackTraces = false) : Comes l x (Jvm.Cond.code x code maxLocals ret :: tables_1) room_1 (fun tb e args s => Calls_1 tb e args s ∧ rest_1 tb e args s ∧ Pre_1 tb e args s)
    (fun _ _ args s o t => lw_Q args s o t) := by
  intro p e ha hc hk s m args below hf hfit hheap happ hpre
  obtain ⟨b, xs, hP⟩ := lw_pre_spec hpre.2.2 hpre.2.1
  obtain ⟨k, o, h1, h2, h3, hQ⟩ := lw_walk l hlt b xs p e ha hc hk s m args below hf ((Spec.applies_iff_loose hf).mp happ).1 hP trivial
  exact ⟨k, o, h1, h2, h3, hQ⟩
theorem lw_frame {s t : State} {o : Outcome} {args : Array Value} (h : Framed s o t [] 601024 7293034) :
    Framed s o t (fieldLocs frame_1_writes args s ++ arrayLocs frame_1_arrays args s ++ staticLocs frame_1_statics s) 601024 7293034 := h
theorem lw_limb (L : Cond) (hL : ∀ (args : Array Value) (s t : State), L.after args s (.returned (some (.int 1))) t = true) :
    ArmFor flags0 classFile x code maxLocals ret World_1 tables_1 room_1 Calls_1 rest_1 Pre_1
      (fun tb e a s o t => postC L tb e a s o t ∧ Framed s o t (fieldLocs frame_1_writes a s ++ arrayLocs frame_1_arrays a s ++ staticLocs frame_1_statics s) 601024 7293034) := by
  intro l hfl _ _ p e ha hc hk s m args below hf hfit hheap happ hpre
  obtain ⟨k, o, h1, h2, h3, rfl, hF⟩ := lw_comes l (by unfold Launch.stackTraces; rw [hfl]; decide) p e ha hc hk s m args below hf hfit hheap happ hpre
  exact ⟨k, _, h1, h2, h3, hL args s _, lw_frame hF⟩
theorem i_vc : Claimed_1_1 ∧ Claimed_1_2 := ⟨lw_limb limb_1_1 (fun args s t => by simp [limb_1_1, Cond.after, Cond.holds, Cond.value]), lw_limb limb_1_2 (fun args s t => Cond.after_iff.mpr (by
  first | (rw [show limb_1_2 = Cond.eq .result (.int 1) from rfl, Cond.eq_ints (x := 1) (y := 1) rfl rfl]; simp; done) | (simp [limb_1_2, Cond.value, Term.eval]; done)))⟩
