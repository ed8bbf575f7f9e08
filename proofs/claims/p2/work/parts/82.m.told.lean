/-! tokens in rows of ghosts -/
section TKT
noncomputable def lAt (h : zH) (r : Nat) (f : Int → Int) (a : Nat) (l : List Int) : Prop := ∀ j v, l[j]? = some v → rv h r (a + j) = f v
theorem lAt_nil {h : zH} {r : Nat} {f : Int → Int} {a : Nat} : lAt h r f a [] := fun j v e => by cases e
theorem lAt_cons {h : zH} {r : Nat} {f : Int → Int} {a : Nat} {v : Int} {l : List Int} : lAt h r f a (v :: l) ↔ rv h r a = f v ∧ lAt h r f (a + 1) l := by
  constructor
  · intro e
    refine ⟨e 0 v rfl, fun j w hj => ?_⟩
    have := e (j + 1) w hj
    rw [show a + 1 + j = a + (j + 1) by omega]
    exact this
  · rintro ⟨e1, e2⟩ j w hj
    cases j with
    | zero =>
      cases hj
      exact e1
    | succ j =>
      have := e2 j w hj
      rw [show a + (j + 1) = a + 1 + j by omega]
      exact this
theorem lAt_app {h : zH} {r : Nat} {f : Int → Int} {l2 : List Int} : ∀ {l1 : List Int} {a : Nat}, lAt h r f a (l1 ++ l2) ↔ lAt h r f a l1 ∧ lAt h r f (a + l1.length) l2
  | [], a => ⟨fun e => ⟨lAt_nil, e⟩, fun e => e.2⟩
  | v :: l1, a => by
    rw [List.cons_append, lAt_cons, lAt_cons, lAt_app (l1 := l1), List.length_cons, show a + (l1.length + 1) = a + 1 + l1.length by omega]
    exact ⟨fun ⟨x, y, z⟩ => ⟨⟨x, y⟩, z⟩, fun ⟨⟨x, y⟩, z⟩ => ⟨x, y, z⟩⟩
noncomputable def tTok (c : Bool) (h : zH) (a : Nat) (l : List Int) : Prop := (c = true → lAt h 660 id a l) ∧ (c = false → lAt h 661 mCd a l ∧ lAt h 662 mVl a l)
noncomputable def tT1 (c : Bool) (h : zH) (a : Nat) (v : Int) : Prop := (c = true → rv h 660 a = v) ∧ (c = false → rv h 661 a = mCd v ∧ rv h 662 a = mVl v)
theorem tTok_app {c : Bool} {h : zH} {a : Nat} {l1 l2 : List Int} : tTok c h a (l1 ++ l2) ↔ tTok c h a l1 ∧ tTok c h (a + l1.length) l2 := by
  unfold tTok
  rw [lAt_app, lAt_app, lAt_app]
  exact ⟨fun ⟨x, y⟩ => ⟨⟨fun q => (x q).1, fun q => ⟨(y q).1.1, (y q).2.1⟩⟩, fun q => (x q).2, fun q => ⟨(y q).1.2, (y q).2.2⟩⟩, fun ⟨⟨x, y⟩, z, w⟩ => ⟨fun q => ⟨x q, z q⟩, fun q => ⟨⟨(y q).1, (w q).1⟩, (y q).2, (w q).2⟩⟩⟩
theorem tTok_cons {c : Bool} {h : zH} {a : Nat} {v : Int} {l : List Int} : tTok c h a (v :: l) ↔ tT1 c h a v ∧ tTok c h (a + 1) l := by
  unfold tTok tT1
  rw [lAt_cons, lAt_cons, lAt_cons]
  exact ⟨fun ⟨x, y⟩ => ⟨⟨fun q => (x q).1, fun q => ⟨(y q).1.1, (y q).2.1⟩⟩, fun q => (x q).2, fun q => ⟨(y q).1.2, (y q).2.2⟩⟩, fun ⟨⟨x, y⟩, z, w⟩ => ⟨fun q => ⟨x q, z q⟩, fun q => ⟨⟨(y q).1, (w q).1⟩, (y q).2, (w q).2⟩⟩⟩
noncomputable def xN (i : Nat) : Nat := if i < 13 then i else i + 2
/-- told: the tokens of the part i at the index x stand from a on -/
noncomputable def tTk (c : Bool) (i : Nat) (x a : Int) (h : zH) : Prop := ∃ ix A : Nat, x = (ix : Int) ∧ a = (A : Int) ∧ tTok c h A (eG c (wN h) (wB h) (xN i) (ix / 241) (ix % 241))
theorem ofT {c : Bool} {i : Nat} {x a : Int} {h : zH} (ht : tTk c i x a h) (D P : Nat) (hx : x = ((241 * D + P : Nat) : Int)) (hP : P < 241) : ∃ A : Nat, a = (A : Int) ∧ tTok c h A (eG c (wN h) (wB h) (xN i) D P) := by
  obtain ⟨ix, A, e1, e2, e3⟩ := ht
  have e4 : ix = 241 * D + P := by omega
  rw [e4, show (241 * D + P) / 241 = D by omega, show (241 * D + P) % 241 = P by omega] at e3
  exact ⟨A, e2, e3⟩
theorem toT {c : Bool} {i : Nat} {x a : Int} {h : zH} (D P A : Nat) (hx : x = ((241 * D + P : Nat) : Int)) (hP : P < 241) (ha : a = (A : Int)) (ht : tTok c h A (eG c (wN h) (wB h) (xN i) D P)) : tTk c i x a h := by
  refine ⟨241 * D + P, A, hx, ha, ?_⟩
  rw [show (241 * D + P) / 241 = D by omega, show (241 * D + P) % 241 = P by omega]
  exact ht
noncomputable def nCp (k : Nat) : Int := if k ≤ 242 then (k : Int) else 0
theorem nCp_b (k : Nat) : 0 ≤ nCp k ∧ nCp k ≤ 242 := by
  unfold nCp
  split <;> omega
/-- how many tokens, in ghosts; numbers' values -/
noncomputable def wNg (c : Bool) (h : zH) : Prop := ∀ i ix, i < 17 → ix < 100000 → rv h (640 + i) ix = nCp (eG c (wN h) (wB h) (xN i) (ix / 241) (ix % 241)).length
noncomputable def wNw (h : zH) : Prop := ∀ p, p ≤ wN h → 48 ≤ wCh (wN h) (wB h) p ∧ wCh (wN h) (wB h) p ≤ 57 → rv h 663 p = wNv (wN h) (wB h) p
noncomputable def tTp (c : Bool) (h : zH) : Prop := wOk h ∧ (if c = true then wOc h else wOm h) ∧ wGh h ∧ wNg c h ∧ wNw h
theorem qk_e {r k : Nat} (hk : pReg k = r) (hs : pSin r = true) : qk r = k := by
  exact pSing _ _ (by rw [hk]; exact hs) (by rw [qk_r hs, hk])
theorem rv_g {h : zH} {r : Nat} (h1 : 500 ≤ r) (h2 : r < 900) (i : Nat) : rv h r i = (h.1 r i).toInt := by
  show (h.1 (qk r) i).toInt = _
  rw [qk_g h1 h2 (pReg_g h1 h2)]
section TKG
variable {c : Bool} {h : zH}
theorem gX (ho : wOk h) (hh : wGh h) {X r d p : Nat} (hr : r = 502 + X) (hX : wX X = true) (hp : p ≤ wN h) (hd : d ≤ 7) : rv h r (241 * d + p) = wG (wN h) (wB h) X d p := by
  have hn := ho.1
  have hX2 : X < 19 := by
    unfold wX at hX
    rw [Bool.or_eq_true, Bool.and_eq_true, decide_eq_true_eq, decide_eq_true_eq, decide_eq_true_eq] at hX
    omega
  rw [rv_g (by omega) (by omega), hh r (by omega) (by omega) _ (by omega)]
  exact wArr_G hr hX hn hp
theorem gX0 (ho : wOk h) (hh : wGh h) {X r p : Nat} (hr : r = 502 + X) (hX : wX X = true) (hp : p ≤ wN h) : rv h r p = wG (wN h) (wB h) X 0 p := by
  have := gX ho hh hr hX hp (d := 0) (by decide)
  rw [show 241 * 0 + p = p by omega] at this
  exact this
theorem gS (ho : wOk h) (hh : wGh h) {p : Nat} (hp : p ≤ wN h) : rv h 500 p = (wSk (wN h) (wB h) p : Int) := by
  have hn := ho.1
  have s := wSk_le (B := wB h) hp
  rw [rv_g (by decide) (by decide), hh 500 (by decide) (by decide) _ (by omega)]
  unfold wArr
  rw [if_pos rfl, if_pos (by omega)]
theorem gC (ho : wOk h) (hh : wGh h) {p : Nat} (hp : p < 100000) : rv h 501 p = wCh (wN h) (wB h) p := by
  have b := wCh_bd ho p
  rw [rv_g (by decide) (by decide), hh 501 (by decide) (by decide) _ hp]
  unfold wArr
  rw [if_neg (by decide), if_pos rfl, if_pos ⟨b.1, b.2.1⟩]
theorem wNu_b {n : Nat} {B : Nat → Int} {q : Nat} (h1 : 48 ≤ wCh n B q ∧ wCh n B q ≤ 57) (hn : n ≤ 240) : -241 ≤ wNu n B q ∧ wNu n B q ≤ 240 := by
  have hg := wNu_gd h1
  have l := wCh_lt (n := n) (B := B) (p := q) (by omega)
  rcases Int.lt_or_le (wNu n B q) 0 with z | z
  · have := hg.1 z
    omega
  · have := hg.2 z
    omega
theorem gNu (ho : wOk h) (hh : wGh h) {p : Nat} (hp : p ≤ wN h) (hd : 48 ≤ wCh (wN h) (wB h) p ∧ wCh (wN h) (wB h) p ≤ 57) : rv h 516 p = wNu (wN h) (wB h) p := by
  have hn := ho.1
  have b := wNu_b hd hn
  rw [rv_g (by decide) (by decide), hh 516 (by decide) (by decide) _ (by omega)]
  unfold wArr wCl
  rw [if_neg (by decide), if_neg (by decide), if_pos rfl, if_pos b]
theorem gN (hN : wNg c h) {i D P : Nat} (hi : i < 17) (hP : P < 241) (hD : D ≤ 7) : rv h (640 + i) (241 * D + P) = nCp (eG c (wN h) (wB h) (xN i) D P).length := by
  rw [hN i _ hi (by omega), show (241 * D + P) / 241 = D by omega, show (241 * D + P) % 241 = P by omega]
theorem gNl (hN : wNg c h) {i D P a : Nat} (hi : i < 17) (hP : P < 241) (hD : D ≤ 7) (hp : P ≤ wN h) (hX : wX (xN i) = true) (h0 : xN i = 11 ∨ xN i = 12 ∨ xN i = 17 ∨ xN i = 18 → D = 0) (ha : wG (wN h) (wB h) (xN i) D P = (a : Int)) (hw : a ≤ 240) : rv h (640 + i) (241 * D + P) = ((eG c (wN h) (wB h) (xN i) D P).length : Int) ∧ (eG c (wN h) (wB h) (xN i) D P).length + P + (if xN i = 11 then 2 else if xN i = 12 then 1 else 0) ≤ a := by
  have l := eLn_all (c := c) (xN i) D P hp hX h0 a ha
  refine ⟨?_, l⟩
  rw [gN hN hi hP hD]
  unfold nCp
  rw [if_pos (by omega)]
theorem wnC (hs : wOc h) : rv h 41 1 = (wN h : Int) := by
  show (h.1 (qk 41) 1).toInt = _
  rw [qk_e (r := 41) (k := 353) (by decide +kernel) (by decide +kernel)]
  exact hs.1
theorem wnM (hs : wOm h) : rv h 120 2 = (wN h : Int) := by
  show (h.1 (qk 120) 2).toInt = _
  rw [qk_e (r := 120) (k := 440) (by decide +kernel) (by decide +kernel)]
  exact hs.1
theorem wcC (hs : wOc h) {p : Nat} (hp : p < wN h) : rv h 40 p = wCh (wN h) (wB h) p := by
  show (h.1 (qk 40) p).toInt = _
  rw [qk_e (r := 40) (k := 352) (by decide +kernel) (by decide +kernel)]
  unfold wCh
  rw [if_pos hp]
  exact hs.2 p hp
theorem wcM (hs : wOm h) {p : Nat} (hp : p < wN h) : rv h 87 p = wCh (wN h) (wB h) p := by
  show (h.1 (qk 87) p).toInt = _
  rw [qk_e (r := 87) (k := 407) (by decide +kernel) (by decide +kernel)]
  unfold wCh
  rw [if_pos hp]
  exact hs.2 p hp
end TKG
end TKT
section TKS
theorem gN0 {c : Bool} {h : zH} (hN : wNg c h) {i P : Nat} (hi : i < 17) (hP : P < 241) : rv h (640 + i) P = nCp (eG c (wN h) (wB h) (xN i) 0 P).length := by
  have := gN hN (D := 0) hi hP (by decide)
  rw [show 241 * 0 + P = P by omega] at this
  exact this
theorem gNl0 {c : Bool} {h : zH} (hN : wNg c h) {i P a : Nat} (hi : i < 17) (hP : P < 241) (hp : P ≤ wN h) (hX : wX (xN i) = true) (ha : wG (wN h) (wB h) (xN i) 0 P = (a : Int)) (hw : a ≤ 240) : rv h (640 + i) P = ((eG c (wN h) (wB h) (xN i) 0 P).length : Int) ∧ (eG c (wN h) (wB h) (xN i) 0 P).length + P + (if xN i = 11 then 2 else if xN i = 12 then 1 else 0) ≤ a := by
  have := gNl hN (D := 0) hi hP (by decide) hp hX (fun _ => rfl) ha hw
  rw [show 241 * 0 + P = P by omega] at this
  exact this
theorem tT1_c {h : zH} {A : Nat} {v : Int} (g : tT1 true h A v) : rv h 660 A = v := g.1 rfl
theorem tT1_m {h : zH} {A : Nat} {v x y : Int} (g : tT1 false h A v) (e : mCd v = x ∧ mVl v = y) : rv h 661 A = x ∧ rv h 662 A = y := ⟨(g.2 rfl).1.trans e.1, (g.2 rfl).2.trans e.2⟩
theorem wNv_b {h : zH} (ho : wOk h) {q : Nat} (hd : 48 ≤ wCh (wN h) (wB h) q ∧ wCh (wN h) (wB h) q ≤ 57) : 0 ≤ wNv (wN h) (wB h) q ∧ wNv (wN h) (wB h) q ≤ 9999 := by
  unfold wNv
  repeat' split
  all_goals omega
end TKS
