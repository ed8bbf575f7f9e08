/-! the law's calls, with the tapes alike -/
theorem r0_H0 : r0 yH0 := ⟨rfl, rfl, fun i hi => by
  have e : (yH0.1 353 1).toInt = 0 := rfl
  omega⟩
section LWR
variable {p : Program} {l : Launch} {e : Env} {s : State} {m : MethodId} {below : List Frame} {meth : Method} {c : Code} {b L : Nat} {xs : Nat → Int32} {cI cZ cQ cG cJ : ClassId} {dC : Nat → ClassId} {dI : Nat → Nat → Nat} {ad : Nat → Nat} {ho sa : Nat} {h h0 : zH} {H : Heap} {locs : List Loc} {cells slots pc : Nat} {Q : State → Prop} {ls : Array Slot}
theorem lwI_cong (hI : lwI cI cZ cQ cG cJ dC dI ad ho s h H locs) (e : ∀ k, k < 441 → h0.1 k = h.1 k ∧ h0.2 k = h.2 k) (i0 : yInv h0) : lwI cI cZ cQ cG cJ dC dI ad ho s h0 H locs := by
  obtain ⟨hP, -, hS, hO⟩ := hI
  exact ⟨by rw [zW_cong e]; exact hP, i0, hS, hO⟩
theorem lw_pubz (C0 : lw_At p s m meth c b L xs) (X : lwK l cI cZ cQ cG cJ dC dI ad ho sa s) (hI : lwI cI cZ cQ cG cJ dC dI ad ho s h H locs) (hsn : r0 h) (lw_c : cells ≤ 601024) (lw_s : slots ≤ 7293034) {mid idx na kc k : Nat} {as : List zV} (hg : zGood 60 mid (.inr (.inr k) :: as) h)
    (hz : (mid, na, kc) ∈ yCeL) (hkc : kc < 99) (hlk : Cond.methodLink RL idx (yMY mid) ∈ yALL) (hlen : as.length + 1 = na) (hrc : zrcv yTab kc (.inr (.inr k) :: as) = true) (hsum : ((.inr (.inr k) :: as : List zV).map zcat).sum ≤ yMl mid) (hdec : decode code pc = .ok (.invokevirtual idx, 3)) {st0 rest : List Value} (hst : st0 = (as.map (zv ad)).reverse ++ .ref (ad k) :: rest) (hrest : (rest.map fun v => v.category).sum ≤ 8) (hls : ls.size = 7)
    (kk : ∀ (x : Int32) (h : zH) (H' : Heap) (locs' : List Loc), lwI cI cZ cQ cG cJ dC dI ad ho s h H' locs' → r0 h → W p l e room_1 s m #[Value.ref b] below meth c H' locs' cells slots Q (F0 m (pc + 3) ls (.int x :: rest))) : W p l e room_1 s m #[Value.ref b] below meth c H locs cells slots Q (F0 m pc ls st0) := by
  obtain ⟨n, x, h', r1, r2, r3⟩ := hg
  exact lw_call C0 X hI lw_c lw_s r1 r2 hz hkc hlk hlen hrc hsum hdec hst hrest hls (fun H' locs' hI' => kk x h' H' locs' hI' (r0_s hI.2.1.1 r3 hsn))
end LWR
