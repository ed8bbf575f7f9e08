/-! what stands at a place, in the words themselves -/
section WEQ
variable {n : Nat} {B : Nat → Int}
theorem wBd_congr {r : Int} {k k' : Nat → Int} (h : ∀ a : Nat, r = (a : Int) → k a = k' a) : wBd r k = wBd r k' := by
  unfold wBd
  by_cases hr : r < 0
  · rw [if_pos hr, if_pos hr]
  · rw [if_neg hr, if_neg hr]
    exact h _ (by omega)
theorem wE_AT {d p : Nat} (hp : p ≤ n) : wG n B 0 d p = if wCh n B (wSk n B p) = 91 then (if 6 ≤ d then wFl (wSk n B p) else wBd (wG n B 3 (d + 1) (wSk n B p + 1)) (fun s => if wCh n B (wSk n B s) = 93 then (wSk n B s : Int) + 1 else wFl (wSk n B s))) else if (wCh n B (wSk n B p) = 100 ∨ wCh n B (wSk n B p) = 101 ∨ wCh n B (wSk n B p) = 104 ∨ wCh n B (wSk n B p) = 105 ∨ wCh n B (wSk n B p) = 110 ∨ wCh n B (wSk n B p) = 119) then (wSk n B p : Int) + 1 else if 48 ≤ wCh n B (wSk n B p) ∧ wCh n B (wSk n B p) ≤ 57 then wNu n B (wSk n B p) else wFl (wSk n B p) := by
  obtain ⟨s1, s2⟩ := wSk_le (B := B) hp
  rw [wG_eq hp]
  show xAT n B _ d p = _
  unfold xAT
  by_cases hc : wCh n B (wSk n B p) = 91
  · have := wCh_lt (n := n) (B := B) (p := wSk n B p) (by omega)
    rw [if_pos hc, if_pos hc, wAc_in (by omega) (by omega)]
  · rw [if_neg hc, if_neg hc]
theorem wE_seq {X Y Z d p : Nat} {x : (Nat → Nat → Nat → Int) → Int} (hY : wX Y = true) (hS : wS Y = 1) (hp : p ≤ n) (e1 : xAll n B (wAc n (wG n B) p) X d p = wBd (xAll n B (wAc n (wG n B) p) Y d p) (fun a => wAc n (wG n B) p Z d a)) : wG n B X d p = wBd (wG n B Y d p) (fun a => wG n B Z d a) := by
  have hg := wG_gd (B := B) Y d p hY hp
  rw [wG_eq (X := X) hp, e1, ← wG_eq (X := Y) hp]
  refine wBd_congr (fun a ha => ?_)
  have := hg.2 (by omega)
  rw [hS] at this
  exact wAc_in (by omega) (by omega)
theorem wE_TM {d p : Nat} (hp : p ≤ n) : wG n B 1 d p = wBd (wG n B 0 d p) (fun a => wG n B 2 d a) := wE_seq (x := fun _ => 0) rfl rfl hp rfl
theorem wE_SU {d p : Nat} (hp : p ≤ n) : wG n B 3 d p = wBd (wG n B 1 d p) (fun a => wG n B 4 d a) := wE_seq (x := fun _ => 0) rfl rfl hp rfl
theorem wE_TR {d p : Nat} (hp : p ≤ n) : wG n B 8 d p = wBd (wG n B 5 d p) (fun a => wG n B 7 d a) := wE_seq (x := fun _ => 0) rfl rfl hp rfl
theorem wE_CO {d p : Nat} (hp : p ≤ n) : wG n B 10 d p = wBd (wG n B 8 d p) (fun a => wG n B 9 d a) := wE_seq (x := fun _ => 0) rfl rfl hp rfl
theorem wE_TB {d p : Nat} (hp : p ≤ n) : wG n B 15 d p = wBd (wG n B 6 d p) (fun a => wG n B 7 d a) := wE_seq (x := fun _ => 0) rfl rfl hp rfl
theorem wE_CB {d p : Nat} (hp : p ≤ n) : wG n B 16 d p = wBd (wG n B 15 d p) (fun a => wG n B 9 d a) := wE_seq (x := fun _ => 0) rfl rfl hp rfl
theorem wE_tail {X Y d p : Nat} (hY : wX Y = true) (hS : wS Y = 1) (hp : p ≤ n) (hq : wSk n B p < n) (e1 : xAll n B (wAc n (wG n B) p) X d p = wBd (wAc n (wG n B) p Y d (wSk n B p + 1)) (fun a => wAc n (wG n B) p X d a)) : wG n B X d p = wBd (wG n B Y d (wSk n B p + 1)) (fun a => wG n B X d a) := by
  obtain ⟨s1, s2⟩ := wSk_le (B := B) hp
  have hg := wG_gd (n := n) (B := B) Y d (wSk n B p + 1) hY (by omega)
  rw [wG_eq hp, e1, wAc_in (by omega) (by omega)]
  refine wBd_congr (fun a ha => ?_)
  have := hg.2 (by omega)
  rw [hS] at this
  exact wAc_in (by omega) (by omega)
theorem wE_TT {d p : Nat} (hp : p ≤ n) : wG n B 2 d p = if wCh n B (wSk n B p) = 42 ∨ wCh n B (wSk n B p) = 47 then wBd (wG n B 0 d (wSk n B p + 1)) (fun a => wG n B 2 d a) else (wSk n B p : Int) := by
  by_cases hc : wCh n B (wSk n B p) = 42 ∨ wCh n B (wSk n B p) = 47
  · rw [if_pos hc]
    refine wE_tail rfl rfl hp (wCh_lt (B := B) (by omega)) ?_
    show xTT n B _ d p = _
    unfold xTT
    rw [if_pos hc]
  · rw [if_neg hc, wG_eq hp]
    show xTT n B _ d p = _
    unfold xTT
    rw [if_neg hc]
theorem wE_ST {d p : Nat} (hp : p ≤ n) : wG n B 4 d p = if wCh n B (wSk n B p) = 43 ∨ wCh n B (wSk n B p) = 45 then wBd (wG n B 1 d (wSk n B p + 1)) (fun a => wG n B 4 d a) else (wSk n B p : Int) := by
  by_cases hc : wCh n B (wSk n B p) = 43 ∨ wCh n B (wSk n B p) = 45
  · rw [if_pos hc]
    refine wE_tail rfl rfl hp (wCh_lt (B := B) (by omega)) ?_
    show xST n B _ d p = _
    unfold xST
    rw [if_pos hc]
  · rw [if_neg hc, wG_eq hp]
    show xST n B _ d p = _
    unfold xST
    rw [if_neg hc]
theorem wE_AN {d p : Nat} (hp : p ≤ n) : wG n B 7 d p = if wCh n B (wSk n B p) = 38 then wBd (wG n B 5 d (wSk n B p + 1)) (fun a => wG n B 7 d a) else (wSk n B p : Int) := by
  by_cases hc : wCh n B (wSk n B p) = 38
  · rw [if_pos hc]
    refine wE_tail rfl rfl hp (wCh_lt (B := B) (by omega)) ?_
    show xAN n B _ d p = _
    unfold xAN
    rw [if_pos hc]
  · rw [if_neg hc, wG_eq hp]
    show xAN n B _ d p = _
    unfold xAN
    rw [if_neg hc]
theorem wE_OT {d p : Nat} (hp : p ≤ n) : wG n B 9 d p = if wCh n B (wSk n B p) = 124 then wBd (wG n B 8 d (wSk n B p + 1)) (fun a => wG n B 9 d a) else (wSk n B p : Int) := by
  by_cases hc : wCh n B (wSk n B p) = 124
  · rw [if_pos hc]
    refine wE_tail rfl rfl hp (wCh_lt (B := B) (by omega)) ?_
    show xOT n B _ d p = _
    unfold xOT
    rw [if_pos hc]
  · rw [if_neg hc, wG_eq hp]
    show xOT n B _ d p = _
    unfold xOT
    rw [if_neg hc]
theorem wE_CM {d p : Nat} (hp : p ≤ n) : wG n B 6 d p = if 60 ≤ wCh n B (wSk n B p) ∧ wCh n B (wSk n B p) ≤ 62 then wG n B 3 d (wSk n B p + 1) else wFl (wSk n B p) := by
  obtain ⟨s1, s2⟩ := wSk_le (B := B) hp
  rw [wG_eq hp]
  show xCM n B _ d p = _
  unfold xCM
  by_cases hc : 60 ≤ wCh n B (wSk n B p) ∧ wCh n B (wSk n B p) ≤ 62
  · have := wCh_lt (n := n) (B := B) (p := wSk n B p) (by omega)
    rw [if_pos hc, if_pos hc, wAc_in (by omega) (by omega)]
  · rw [if_neg hc, if_neg hc]
theorem wE_SUq {d p : Nat} (hp : p ≤ n) : (if wSk n B p = p then xSU n B (wAc n (wG n B) p) d p else wAc n (wG n B) p 3 d (wSk n B p)) = wG n B 3 d (wSk n B p) := by
  obtain ⟨s1, s2⟩ := wSk_le (B := B) hp
  split
  · rename_i he
    rw [he, wG_eq hp]
    rfl
  · exact wAc_in (by omega) s2
theorem wE_COq {d p : Nat} (hp : p ≤ n) : (if wSk n B p = p then xCO n B (wAc n (wG n B) p) d p else wAc n (wG n B) p 10 d (wSk n B p)) = wG n B 10 d (wSk n B p) := by
  obtain ⟨s1, s2⟩ := wSk_le (B := B) hp
  split
  · rename_i he
    rw [he, wG_eq hp]
    rfl
  · exact wAc_in (by omega) s2
theorem wE_UN {d p : Nat} (hp : p ≤ n) : wG n B 5 d p = if wCh n B (wSk n B p) = 33 then (if 6 ≤ d then wFl (wSk n B p) else wG n B 5 (d + 1) (wSk n B p + 1)) else if wCh n B (wSk n B p) = 40 then (if 6 ≤ d then wFl (wSk n B p) else wBd (wG n B 10 (d + 1) (wSk n B p + 1)) (fun s => if wCh n B (wSk n B s) = 41 then (wSk n B s : Int) + 1 else wFl (wSk n B s))) else wBd (wG n B 3 d (wSk n B p)) (fun s => wG n B 6 d s) := by
  obtain ⟨s1, s2⟩ := wSk_le (B := B) hp
  rw [wG_eq hp]
  show xUN n B _ d p = _
  unfold xUN
  by_cases hc : wCh n B (wSk n B p) = 33
  · have := wCh_lt (n := n) (B := B) (p := wSk n B p) (by omega)
    rw [if_pos hc, if_pos hc, wAc_in (by omega) (by omega)]
  · rw [if_neg hc, if_neg hc]
    by_cases hc2 : wCh n B (wSk n B p) = 40
    · have := wCh_lt (n := n) (B := B) (p := wSk n B p) (by omega)
      rw [if_pos hc2, if_pos hc2, wAc_in (by omega) (by omega)]
    · rw [if_neg hc2, if_neg hc2, wE_SUq hp]
      have hg := wG_gd (B := B) 3 d (wSk n B p) rfl s2
      refine wBd_congr (fun a ha => ?_)
      have := hg.2 (by omega)
      have h1 : (wS 3 : Int) = 1 := rfl
      exact wAc_in (by omega) (by omega)
theorem wE_C2 {p : Nat} (hp : p ≤ n) : wG n B 18 0 p = if wCh n B (wSk n B p) = 63 then wG n B 3 0 (wSk n B p + 1) else wFl (wSk n B p) := by
  obtain ⟨s1, s2⟩ := wSk_le (B := B) hp
  rw [wG_eq hp]
  show xC2 n B _ p = _
  unfold xC2
  by_cases hc : wCh n B (wSk n B p) = 63
  · have := wCh_lt (n := n) (B := B) (p := wSk n B p) (by omega)
    rw [if_pos hc, if_pos hc, wAc_in (by omega) (by omega)]
  · rw [if_neg hc, if_neg hc]
theorem wE_C1 {p : Nat} (hp : p ≤ n) : wG n B 17 0 p = if wCh n B (wSk n B p) = 33 ∨ wCh n B (wSk n B p) = 40 then wBd (wG n B 10 0 (wSk n B p)) (fun a => wG n B 18 0 a) else wBd (wG n B 3 0 (wSk n B p)) (fun s => if 60 ≤ wCh n B (wSk n B s) ∧ wCh n B (wSk n B s) ≤ 62 then wBd (wG n B 16 0 (wSk n B s)) (fun b => wG n B 18 0 b) else (wSk n B s : Int)) := by
  obtain ⟨s1, s2⟩ := wSk_le (B := B) hp
  rw [wG_eq hp]
  show xC1 n B _ p = _
  unfold xC1
  by_cases hc : wCh n B (wSk n B p) = 33 ∨ wCh n B (wSk n B p) = 40
  · rw [if_pos hc, if_pos hc, wE_COq hp]
    have hg := wG_gd (B := B) 10 0 (wSk n B p) rfl s2
    refine wBd_congr (fun a ha => ?_)
    have := hg.2 (by omega)
    have h1 : (wS 10 : Int) = 1 := rfl
    exact wAc_in (by omega) (by omega)
  · rw [if_neg hc, if_neg hc, wE_SUq hp]
    have hg := wG_gd (B := B) 3 0 (wSk n B p) rfl s2
    refine wBd_congr (fun a ha => ?_)
    have := hg.2 (by omega)
    have h1 : (wS 3 : Int) = 1 := rfl
    obtain ⟨t1, t2⟩ := wSk_le (n := n) (B := B) (p := a) (by omega)
    by_cases hc2 : 60 ≤ wCh n B (wSk n B a) ∧ wCh n B (wSk n B a) ≤ 62
    · rw [if_pos hc2, if_pos hc2, wAc_in (by omega) (by omega)]
      have hg := wG_gd (B := B) 16 0 (wSk n B a) rfl t2
      refine wBd_congr (fun b hb => ?_)
      have := hg.2 (by omega)
      have h2 : (wS 16 : Int) = 1 := rfl
      exact wAc_in (by omega) (by omega)
    · rw [if_neg hc2, if_neg hc2]
theorem wE_CL {p : Nat} (hp : p ≤ n) : wG n B 11 0 p = if wCh n B (wSk n B p) = 121 then (if wCh n B (wSk n B (wSk n B p + 1)) = 58 then wG n B 17 0 (wSk n B (wSk n B p + 1) + 1) else wFl (wSk n B (wSk n B p + 1))) else wFl (wSk n B p) := by
  obtain ⟨s1, s2⟩ := wSk_le (B := B) hp
  rw [wG_eq hp]
  show xCL n B _ p = _
  unfold xCL
  by_cases hc : wCh n B (wSk n B p) = 121
  · have := wCh_lt (n := n) (B := B) (p := wSk n B p) (by omega)
    obtain ⟨t1, t2⟩ := wSk_le (n := n) (B := B) (p := wSk n B p + 1) (by omega)
    rw [if_pos hc, if_pos hc]
    by_cases hc2 : wCh n B (wSk n B (wSk n B p + 1)) = 58
    · have := wCh_lt (n := n) (B := B) (p := wSk n B (wSk n B p + 1)) (by omega)
      rw [if_pos hc2, if_pos hc2, wAc_in (by omega) (by omega)]
    · rw [if_neg hc2, if_neg hc2]
  · rw [if_neg hc, if_neg hc]
theorem wE_LT {p : Nat} (hp : p ≤ n) : wG n B 12 0 p = wBd (wG n B 11 0 p) (fun a => if wCh n B (wSk n B a) = 59 then wG n B 12 0 (wSk n B a + 1) else if wCh n B (wSk n B a) = 0 then (wSk n B a : Int) else wFl (wSk n B a)) := by
  have hg := wG_gd (B := B) 11 0 p rfl hp
  rw [wG_eq (X := 12) hp]
  show xLT n B _ p = _
  unfold xLT
  have e11 : xCL n B (wAc n (wG n B) p) p = wG n B 11 0 p := (wG_eq (B := B) (X := 11) (d := 0) hp).symm
  rw [e11]
  refine wBd_congr (fun a ha => ?_)
  have := hg.2 (by omega)
  have h1 : (wS 11 : Int) = 1 := rfl
  obtain ⟨t1, t2⟩ := wSk_le (n := n) (B := B) (p := a) (by omega)
  by_cases hc : wCh n B (wSk n B a) = 59
  · have := wCh_lt (n := n) (B := B) (p := wSk n B a) (by omega)
    rw [if_pos hc, if_pos hc, wAc_in (by omega) (by omega)]
  · rw [if_neg hc, if_neg hc]
/-- a value that goes on: it is a fault, or a place behind -/
theorem wBd_cs {r : Int} {k : Nat → Int} {p st : Nat} (hg : wGd n st p r) : (r < 0 ∧ wBd r k = r) ∨ ∃ a : Nat, r = (a : Int) ∧ p + st ≤ a ∧ a ≤ n ∧ wBd r k = k a := by
  unfold wBd
  by_cases h : r < 0
  · exact Or.inl ⟨h, if_pos h⟩
  · have := hg.2 (by omega)
    exact Or.inr ⟨r.toNat, by omega, by omega, by omega, if_neg h⟩
end WEQ
/-! the tape's words stand in ghost cells -/
def wCl (v : Int) : Int := if -241 ≤ v ∧ v ≤ 240 then v else 0
def wArr (n : Nat) (B : Nat → Int) (r i : Nat) : Int := if r = 500 then (if wSk n B i ≤ 240 then (wSk n B i : Int) else 0) else if r = 501 then (if 0 ≤ wCh n B i ∧ wCh n B i ≤ 255 then wCh n B i else 0) else if r = 516 then wCl (wNu n B i) else wCl (wG n B (r - 502) (i / 241) (i % 241))
def wB (h : zH) (i : Nat) : Int := if i < 240 then (h.1 352 i).toInt else 0
def wN (h : zH) : Nat := (h.1 353 1).toInt.toNat
def wOk (h : zH) : Prop := (h.1 353 1).toInt = (wN h : Int) ∧ wN h ≤ 240 ∧ (h.1 440 2).toInt = (wN h : Int) ∧ (∀ i, i < wN h → (h.1 407 i).toInt = wB h i ∧ 1 ≤ wB h i ∧ wB h i ≤ 255)
def wGh (h : zH) : Prop := ∀ r, 500 ≤ r → r < 521 → ∀ i, i < 100000 → (h.1 r i).toInt = wArr (wN h) (wB h) r i
noncomputable def pgv (a : Nat) (h : zH) : Int := if a = 0 then (@ite Int (wOk h ∧ wGh h) (Classical.propDecidable _) 1 0) else 0
def pGuL : sD := [(40, 0, 99999), (41, 1, 1), (87, 0, 99999), (120, 2, 2), (500, 0, 99999), (501, 0, 99999), (502, 0, 99999), (503, 0, 99999), (504, 0, 99999), (505, 0, 99999), (506, 0, 99999), (507, 0, 99999), (508, 0, 99999), (509, 0, 99999), (510, 0, 99999), (511, 0, 99999), (512, 0, 99999), (513, 0, 99999), (514, 0, 99999), (515, 0, 99999), (516, 0, 99999), (517, 0, 99999), (518, 0, 99999), (519, 0, 99999), (520, 0, 99999)]
def pGu (a : Nat) : sD := if a = 0 then pGuL else []
theorem wSame {h h' : zH} (e1 : h.1 353 1 = h'.1 353 1) (e2 : h.1 440 2 = h'.1 440 2) (e3 : ∀ i, i < 100000 → h.1 352 i = h'.1 352 i) (e4 : ∀ i, i < 100000 → h.1 407 i = h'.1 407 i) (e5 : ∀ r, 500 ≤ r → r < 521 → ∀ i, i < 100000 → h.1 r i = h'.1 r i) (hh : wOk h ∧ wGh h) : wOk h' ∧ wGh h' := by
  obtain ⟨⟨o1, o2, o3, o4⟩, g⟩ := hh
  have en : wN h' = wN h := by unfold wN; rw [e1]
  have eb : wB h' = wB h := by
    funext i
    unfold wB
    by_cases hi : i < 240
    · rw [if_pos hi, if_pos hi, e3 i (by omega)]
    · rw [if_neg hi, if_neg hi]
  refine ⟨⟨by rw [en, ← e1]; exact o1, by rw [en]; exact o2, by rw [en, ← e2]; exact o3, ?_⟩, ?_⟩
  · intro i hi
    rw [en] at hi
    rw [eb, ← e4 i (by omega)]
    exact o4 i hi
  · intro r h1 h2 i hi
    rw [en, eb, ← e5 r h1 h2 i hi]
    exact g r h1 h2 i hi
theorem pGv : sGv pReg pGu pgv := by
  intro a h h' hag
  unfold pgv
  by_cases ha : a = 0
  · subst ha
    have key : ∀ (k i r : Nat) (lo hi : Int), (r, lo, hi) ∈ pGuL → pReg k = r → lo ≤ (i : Int) → (i : Int) ≤ hi → h.1 k i = h'.1 k i := fun k i r lo hi hm hk h1 h2 => hag k i ⟨(r, lo, hi), hm, hk, h1, h2⟩
    have e1 := key 353 1 41 1 1 (List.mem_of_getElem? (i := 1) rfl) (by decide +kernel) (by decide) (by decide)
    have e2 := key 440 2 120 2 2 (List.mem_of_getElem? (i := 3) rfl) (by decide +kernel) (by decide) (by decide)
    have e3 : ∀ i, i < 100000 → h.1 352 i = h'.1 352 i := fun i hi => key 352 i 40 0 99999 (List.mem_of_getElem? (i := 0) rfl) (by decide +kernel) (by omega) (by omega)
    have e4 : ∀ i, i < 100000 → h.1 407 i = h'.1 407 i := fun i hi => key 407 i 87 0 99999 (List.mem_of_getElem? (i := 2) rfl) (by decide +kernel) (by omega) (by omega)
    have hm : ∀ r, 500 ≤ r → r < 521 → (r, (0 : Int), (99999 : Int)) ∈ pGuL := by
      intro r h1 h2
      have := yAll (f := fun k => decide ((500 + k, (0 : Int), (99999 : Int)) ∈ pGuL)) (n := 21) (by decide +kernel) (k := r - 500) (by omega)
      rw [show 500 + (r - 500) = r by omega] at this
      exact of_decide_eq_true this
    have e5 : ∀ r, 500 ≤ r → r < 521 → ∀ i, i < 100000 → h.1 r i = h'.1 r i := fun r h1 h2 i hi => key r i r 0 99999 (hm r h1 h2) (pReg_g h1 (by omega)) (by omega) (by omega)
    rw [if_pos rfl, if_pos rfl]
    have hiff : (wOk h ∧ wGh h) ↔ (wOk h' ∧ wGh h') := ⟨wSame e1 e2 e3 e4 e5, wSame e1.symm e2.symm (fun i hi => (e3 i hi).symm) (fun i hi => (e4 i hi).symm) (fun r a b i hi => (e5 r a b i hi).symm)⟩
    by_cases hq : wOk h ∧ wGh h
    · rw [if_pos hq, if_pos (hiff.mp hq)]
    · rw [if_neg hq, if_neg (fun z => hq (hiff.mpr z))]
  · rw [if_neg ha, if_neg ha]
/-! facts out of a rule's start, and into its ends -/
theorem psvp : ∀ (l : List (Nat × Nat × sE)) (j k : Nat) (r : Nat) (i : sE), l[k]? = some (2, r, i) → (r, i, sY (j + k)) ∈ svp j l
  | [], _, _, _, _, e => by cases e
  | v :: l, j, 0, r, i, e => by
    cases e
    exact List.mem_cons_self ..
  | v :: l, j, k + 1, r, i, e => by
    have := psvp l (j + 1) k r i e
    rw [show j + 1 + k = j + (k + 1) by omega] at this
    unfold svp
    split
    · exact List.mem_cons_of_mem _ this
    · exact this
section PFACT
variable {ρ ρ0 : Nat → Int} {A : sA} {loc : zL} {h : zH}
theorem pFact (hM : sMt pReg pgv ρ ρ0 (sAs A) loc [] h) (k r : Nat) (i : sE) (e : A.2.1[k]? = some (2, r, i)) : smm pReg pgv ρ h (r, i, sY k) := by
  have := psvp A.2.1 0 k r i e
  rw [Nat.zero_add] at this
  exact hM.2.2.1 _ this
theorem pTold (hM : sMt pReg pgv ρ ρ0 (sAs A) loc [] h) (k : Nat) (i : sE) (e : A.2.1[k]? = some (2, 1000, i)) (h1 : 1 ≤ ρ k) : wOk h ∧ wGh h := by
  have this : pgv 0 h = ρ k := by
    have q := pFact hM k 1000 i e
    unfold smm at q
    rw [if_neg (show ¬ (1000 : Nat) < 1000 by omega)] at q
    simp only [Nat.sub_self, sY_v] at q
    exact q
  unfold pgv at this
  rw [if_pos rfl] at this
  by_cases hq : wOk h ∧ wGh h
  · exact hq
  · rw [if_neg hq] at this
    omega
theorem pPl (hM : sMt pReg pgv ρ ρ0 (sAs A) loc [] h) (k r : Nat) (i : sE) (e : A.2.1[k]? = some (2, r, i)) (hr : r < 1000) (c j : Nat) (hc : pReg c = r) (hj : sv ρ i = (j : Int)) : (h.1 c j).toInt = ρ k := by
  have := pFact hM k r i e
  unfold smm at this
  rw [if_pos hr] at this
  have := this.2 c hc
  rw [hj, sY_v] at this
  exact this
theorem wArr_G {n : Nat} {B : Nat → Int} {X r d p : Nat} (hr : r = 502 + X) (hX : wX X = true) (hn : n ≤ 240) (hp : p ≤ n) : wArr n B r (241 * d + p) = wG n B X d p := by
  have hg := wG_gd (B := B) X d p hX hp
  have hX2 : X ≠ 14 := fun h => by rw [h] at hX; cases hX
  unfold wArr
  rw [if_neg (by omega), if_neg (by omega), if_neg (by omega), show r - 502 = X by omega, show (241 * d + p) / 241 = d by omega, show (241 * d + p) % 241 = p by omega]
  unfold wCl
  rw [if_pos]
  by_cases hv : wG n B X d p < 0
  · have := hg.1 hv
    omega
  · have := hg.2 (by omega)
    omega
theorem pfG (hM : sMt pReg pgv ρ ρ0 (sAs A) loc [] h) (ho : wOk h) (hh : wGh h) (k r X : Nat) (i : sE) (e : A.2.1[k]? = some (2, r, i)) (hr : r = 502 + X) (hX : wX X = true) {d p : Nat} (hp : p ≤ wN h) (hd : d ≤ 7) (hj : sv ρ i = ((241 * d + p : Nat) : Int)) : ρ k = wG (wN h) (wB h) X d p := by
  have hn := ho.2.1
  have hX2 : X < 19 := by
    unfold wX at hX
    simp only [Bool.or_eq_true, Bool.and_eq_true, decide_eq_true_eq] at hX
    omega
  have := pPl hM k r i e (by omega) r (241 * d + p) (pReg_g (by omega) (by omega)) hj
  rw [← this, hh r (by omega) (by omega) _ (by omega)]
  exact wArr_G hr hX hn hp
theorem pfS (hM : sMt pReg pgv ρ ρ0 (sAs A) loc [] h) (ho : wOk h) (hh : wGh h) (k : Nat) (i : sE) (e : A.2.1[k]? = some (2, 500, i)) {p : Nat} (hp : p ≤ wN h) (hj : sv ρ i = (p : Int)) : ρ k = (wSk (wN h) (wB h) p : Int) := by
  have hn := ho.2.1
  have h2 := (wSk_le (B := wB h) hp).2
  have := pPl hM k 500 i e (by omega) 500 p (pReg_g (by omega) (by omega)) hj
  rw [← this, hh 500 (by omega) (by omega) _ (by omega)]
  unfold wArr
  rw [if_pos rfl, if_pos (by omega)]
theorem wCh_bd (ho : wOk h) (p : Nat) : 0 ≤ wCh (wN h) (wB h) p ∧ wCh (wN h) (wB h) p ≤ 255 ∧ (p < wN h → 1 ≤ wCh (wN h) (wB h) p) := by
  unfold wCh
  by_cases hp : p < wN h
  · have := (ho.2.2.2 p hp).2
    rw [if_pos hp]
    omega
  · rw [if_neg hp]
    omega
theorem pfC (hM : sMt pReg pgv ρ ρ0 (sAs A) loc [] h) (ho : wOk h) (hh : wGh h) (k : Nat) (i : sE) (e : A.2.1[k]? = some (2, 501, i)) {p : Nat} (hp : p ≤ wN h) (hj : sv ρ i = (p : Int)) : ρ k = wCh (wN h) (wB h) p := by
  have hn := ho.2.1
  have hb := wCh_bd ho p
  have := pPl hM k 501 i e (by omega) 501 p (pReg_g (by omega) (by omega)) hj
  rw [← this, hh 501 (by omega) (by omega) _ (by omega)]
  unfold wArr
  rw [if_neg (by omega), if_pos rfl, if_pos (by omega)]
theorem pfN (hM : sMt pReg pgv ρ ρ0 (sAs A) loc [] h) (ho : wOk h) (hh : wGh h) (k : Nat) (i : sE) (e : A.2.1[k]? = some (2, 516, i)) {p : Nat} (hp : p ≤ wN h) (hd : 48 ≤ wCh (wN h) (wB h) p ∧ wCh (wN h) (wB h) p ≤ 57) (hj : sv ρ i = (p : Int)) : ρ k = wNu (wN h) (wB h) p := by
  have hn := ho.2.1
  have hg := wNu_gd hd
  have := pPl hM k 516 i e (by omega) 516 p (pReg_g (by omega) (by omega)) hj
  rw [← this, hh 516 (by omega) (by omega) _ (by omega)]
  unfold wArr wCl
  rw [if_neg (by omega), if_neg (by omega), if_pos rfl, if_pos]
  by_cases hv : wNu (wN h) (wB h) p < 0
  · have := hg.1 hv
    omega
  · have := hg.2 (by omega)
    omega
theorem pOne {c r : Nat} (h1 : 500 ≤ r) (h2 : r < 900) (hc : pReg c = r) : c = r := by
  have e := pReg_g h1 h2
  refine pSing r c ?_ (by rw [hc, e])
  rw [e]
  unfold pSin
  rw [Bool.or_eq_true]
  left
  simp only [Bool.and_eq_true, decide_eq_true_eq]
  exact ⟨h1, h2⟩
variable {ρx : Nat → Int} {idx val : sE}
theorem pgh (r : Nat) (h1 : 500 ≤ r) (h2 : r < 521) (hh : wGh h) {i : Nat} (hi : i < 100000) (hj : sv ρx idx = (i : Int)) (hv : sv ρx val = wArr (wN h) (wB h) r i) : smm pReg pgv ρx h (r, idx, val) := by
  unfold smm
  rw [if_pos (show (r, idx, val).1 < 1000 by show r < 1000; omega)]
  refine ⟨by show 0 ≤ sv ρx idx; omega, fun c hc => ?_⟩
  have := pOne h1 (by omega) hc
  subst this
  show (h.1 c (sv ρx idx).toNat).toInt = sv ρx val
  rw [hj, hv]
  exact hh c h1 h2 i hi
theorem pgG (ho : wOk h) (hh : wGh h) (r X : Nat) (hr : r = 502 + X) (hX : wX X = true) (d p : Nat) (hp : p ≤ wN h) (hd : d ≤ 7) (hj : sv ρx idx = 241 * (d : Int) + (p : Int)) (hv : sv ρx val = wG (wN h) (wB h) X d p) : smm pReg pgv ρx h (r, idx, val) := by
  have hn := ho.2.1
  have hX2 : X < 19 := by
    unfold wX at hX
    simp only [Bool.or_eq_true, Bool.and_eq_true, decide_eq_true_eq] at hX
    omega
  refine pgh r (by omega) (by omega) hh (i := 241 * d + p) (by omega) (by omega) ?_
  rw [hv, wArr_G hr hX hn hp]
theorem pgS (ho : wOk h) (hh : wGh h) (p : Nat) (hp : p ≤ wN h) (hj : sv ρx idx = (p : Int)) (hv : sv ρx val = (wSk (wN h) (wB h) p : Int)) : smm pReg pgv ρx h (500, idx, val) := by
  have hn := ho.2.1
  have h2 := (wSk_le (B := wB h) hp).2
  refine pgh 500 (by omega) (by omega) hh (i := p) (by omega) hj ?_
  rw [hv]
  unfold wArr
  rw [if_pos rfl, if_pos (by omega)]
theorem pgC (ho : wOk h) (hh : wGh h) (p : Nat) (hp : p ≤ 500) (hj : sv ρx idx = (p : Int)) (hv : sv ρx val = wCh (wN h) (wB h) p) : smm pReg pgv ρx h (501, idx, val) := by
  have hb := wCh_bd ho p
  refine pgh 501 (by omega) (by omega) hh (i := p) (by omega) hj ?_
  rw [hv]
  unfold wArr
  rw [if_neg (by omega), if_pos rfl, if_pos (by omega)]
theorem pgN (ho : wOk h) (hh : wGh h) (p : Nat) (hp : p ≤ wN h) (hd : 48 ≤ wCh (wN h) (wB h) p ∧ wCh (wN h) (wB h) p ≤ 57) (hj : sv ρx idx = (p : Int)) (hv : sv ρx val = wNu (wN h) (wB h) p) : smm pReg pgv ρx h (516, idx, val) := by
  have hn := ho.2.1
  have hg := wNu_gd hd
  refine pgh 516 (by omega) (by omega) hh (i := p) (by omega) hj ?_
  rw [hv]
  unfold wArr wCl
  rw [if_neg (by omega), if_neg (by omega), if_pos rfl, if_pos]
  by_cases hv : wNu (wN h) (wB h) p < 0
  · have := hg.1 hv
    omega
  · have := hg.2 (by omega)
    omega
def pL (L : List Int) (j : Nat) : Int := L.getD j 0
theorem pEnd {n : Nat} {X : sX} {h : zH} {ρ0 : Nat → Int} (L : List Int) (h1 : X.1 = none) (hL : ∀ j, j < n → pL L j = ρ0 (j + 1)) (hb : ∀ k b, X.2.2.1[k]? = some b → b.1 ≤ pL L (n + k) ∧ pL L (n + k) ≤ b.2) (hc : ∀ c ∈ X.2.2.2.1, sv (pL L) c ≤ 0) (hm : ∀ m ∈ X.2.1, smm pReg pgv (pL L) h m) : sEx pReg pgv n X ρ0 none h := by
  refine ⟨pL L, hL, hb, hc, hm, ?_⟩
  rw [h1]
  trivial
end PFACT
theorem pAll0 {α : Type} {P : α → Prop} : ∀ x ∈ ([] : List α), P x := fun x hx => by cases hx
theorem pAll1 {α : Type} {P : α → Prop} {a : α} {l : List α} (h : P a) (hl : ∀ x ∈ l, P x) : ∀ x ∈ a :: l, P x := List.forall_mem_cons.mpr ⟨h, hl⟩
theorem pIdx0 {P : Nat → Int × Int → Prop} : ∀ k b, ([] : List (Int × Int))[k]? = some b → P k b := fun k b h => by cases h
theorem pIdx1 {P : Nat → Int × Int → Prop} {a : Int × Int} {l : List (Int × Int)} (h0 : P 0 a) (h : ∀ k b, l[k]? = some b → P (k + 1) b) : ∀ k b, (a :: l)[k]? = some b → P k b := fun k b hk => by
  match k, hk with
  | 0, hk => cases hk; exact h0
  | k + 1, hk => exact h k b hk
