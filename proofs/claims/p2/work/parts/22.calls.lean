/-! calls, returns, and the run -/
/-- the addresses of the N cells, and all that comes -/
def zA (ad : Nat → Nat) (N sz : Nat) : Nat → Prop := fun q => (∃ id, id < N ∧ q = ad id) ∨ sz ≤ q
section ZS3
variable {tab : Nat → (Nat × List Nat) ⊕ (Nat × Nat × List Nat)} {cI cZ cQ cG : ClassId} {dC : Nat → ClassId} {dI : Nat → Nat → Nat} {ad : Nat → Nat} {N : Nat}
def zInj (ad : Nat → Nat) (N : Nat) : Prop := ∀ i j, i < N → j < N → ad i = ad j → i = j
theorem zW_mem {h : zH} {k : Nat} {q : Nat × va_E} (hk : (zW tab cI cZ cQ cG ad N h)[k]? = some q) : k < N ∧ q.1 = ad k := by
  have hl : k < (zW tab cI cZ cQ cG ad N h).length := (List.getElem?_eq_some_iff.mp hk).1
  have hN : k < N := by unfold zW at hl; simpa using hl
  rw [zW_at hN] at hk
  exact ⟨hN, by rw [← Option.some.inj hk]⟩
theorem zD_of {A : Nat → Prop} {h : zH} (hi : zInj ad N) (hA : ∀ id, id < N → A (ad id)) : va_D A (zW tab cI cZ cQ cG ad N h) := by
  refine ⟨fun i j p q hp hq e => ?_, fun k q hq => ?_⟩
  · obtain ⟨h1, e1⟩ := zW_mem hp
    obtain ⟨h2, e2⟩ := zW_mem hq
    exact hi i j h1 h2 (by rw [← e1, ← e2]; exact e)
  · obtain ⟨h1, e1⟩ := zW_mem hq
    rw [e1]
    exact hA k h1
/-- a method's end -/
def zQ (tab : Nat → (Nat × List Nat) ⊕ (Nat × Nat × List Nat)) (cI cZ cQ cG : ClassId) (dC : Nat → ClassId) (dI : Nat → Nat → Nat) (ad : Nat → Nat) (N : Nat) (A : Nat → Prop) (Q : Option zV → zH → Prop) : Array Value → State → Outcome → State → Prop := fun _ st oc t => (∃ (r : Option zV) (h' : zH), oc = .returned (r.map (zv ad)) ∧ Q r h' ∧ va_P (dC, dI) vwCl (zW tab cI cZ cQ cG ad N h') t.heap) ∧ va_F A st t
variable {p : Program} {l : Launch} {e : Env} {R : Room} {s : State} {m : MethodId} {args : Array Value} {below : List Frame} {meth : Method} {c : Code} {H : Heap} {locs : List Loc} {cells slots : Nat} {Q : State → Prop}
variable {pc : Nat} {ls : Array Slot} {rest st0 : List Value} {a : Array Value} {A0 A1 : Nat → Prop} {free : Addr → Prop}
theorem z_call {Q1 : Option zV → zH → Prop} (hr : va_Run p l e R s m args below meth c H locs cells slots 0 0 (F0 m pc ls st0) rest (zQ tab cI cZ cQ cG dC dI ad N A1 Q1 a) free) (hS : va_S A0 s.heap H locs) (hA : ∀ q, A1 q → A0 q) (hf : ∀ q, free q → A0 q)
    (kk : ∀ (r : Option zV) (h' : zH) (H1 : Heap) (locs1 : List Loc), Q1 r h' → va_P (dC, dI) vwCl (zW tab cI cZ cQ cG ad N h') H1 → va_S A0 s.heap H1 locs1 → W p l e R s m args below meth c H1 locs1 cells slots Q (F0 m (pc + 3) ls ((r.map (zv ad)).toList ++ rest))) : W p l e R s m args below meth c H locs cells slots Q (F0 m pc ls st0) := by
  intro T hT X
  obtain ⟨v, st₀, t, T', L, h0, X', hL, e1, e2, ⟨⟨r, h', hv, hq, hp⟩, hz, hk⟩, st⟩ := hr T hT X
  cases hv
  rw [h0] at hz hk
  obtain ⟨t2, a1, b1⟩ := kk r h' T'.heap (locs ++ L) hq (by rw [e1]; exact hp)
    ⟨Nat.le_trans hS.1 (by rw [e1]; exact hz), fun q h1 h2 => by rw [e1, hk q (Nat.lt_of_lt_of_le h1 hS.1) (fun z => h2 (hA q z))]; exact hS.2.1 q h1 h2, fun q hq => by
      rcases List.mem_append.mp hq with h | h
      · exact hS.2.2 q h
      · exact hf _ (hL q h)⟩ T' rfl X'
  exact ⟨t2, st t2 a1, b1⟩
end ZS3
