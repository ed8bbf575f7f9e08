/-! the tokens of a law's text: what a reader writes from each place (c: the class's, with the signs of clauses) -/
section TOKD
variable (c : Bool) (n : Nat) (B : Nat → Int)
noncomputable def eBd (r : Int) (k : Nat → List Int) : List Int := if r < 0 then [] else k r.toNat
noncomputable def wLi (x : Int) : Int := if x = 100 then 0 else if x = 105 then 1 else if x = 101 then 2 else if x = 104 then 3 else if x = 119 then 4 else 5
noncomputable def wDg (p : Nat) : Prop := 48 ≤ wCh n B p ∧ wCh n B p ≤ 57
noncomputable def wNv (p : Nat) : Int := if 48 ≤ wCh n B (p + 1) ∧ wCh n B (p + 1) ≤ 57 then (if 48 ≤ wCh n B (p + 2) ∧ wCh n B (p + 2) ≤ 57 then (if 48 ≤ wCh n B (p + 3) ∧ wCh n B (p + 3) ≤ 57 then 1000 * wCh n B p + 100 * wCh n B (p + 1) + 10 * wCh n B (p + 2) + wCh n B (p + 3) - 53328 else 100 * wCh n B p + 10 * wCh n B (p + 1) + wCh n B (p + 2) - 5328) else 10 * wCh n B p + wCh n B (p + 1) - 528) else wCh n B p - 48
section ESTEP
variable (A : Nat → Nat → Nat → List Int)
noncomputable def eAT (d p : Nat) : List Int := if wCh n B (wSk n B p) = 91 then (if 6 ≤ d then [] else A 3 (d + 1) (wSk n B p + 1)) else if (wCh n B (wSk n B p) = 100 ∨ wCh n B (wSk n B p) = 101 ∨ wCh n B (wSk n B p) = 104 ∨ wCh n B (wSk n B p) = 105 ∨ wCh n B (wSk n B p) = 110 ∨ wCh n B (wSk n B p) = 119) then [10000 + wLi (wCh n B (wSk n B p))] else if 48 ≤ wCh n B (wSk n B p) ∧ wCh n B (wSk n B p) ≤ 57 then (if wNu n B (wSk n B p) < 0 then [] else [wNv n B (wSk n B p)]) else []
noncomputable def eTM (d p : Nat) : List Int := eAT n B A d p ++ eBd (wG n B 0 d p) (fun a => A 2 d a)
noncomputable def eTT (d p : Nat) : List Int := if wCh n B (wSk n B p) = 42 ∨ wCh n B (wSk n B p) = 47 then A 0 d (wSk n B p + 1) ++ eBd (wG n B 0 d (wSk n B p + 1)) (fun a => -wCh n B (wSk n B p) :: A 2 d a) else []
noncomputable def eSU (d p : Nat) : List Int := eTM n B A d p ++ eBd (wG n B 1 d p) (fun a => A 4 d a)
noncomputable def eST (d p : Nat) : List Int := if wCh n B (wSk n B p) = 43 ∨ wCh n B (wSk n B p) = 45 then A 1 d (wSk n B p + 1) ++ eBd (wG n B 1 d (wSk n B p + 1)) (fun a => -wCh n B (wSk n B p) :: A 4 d a) else []
noncomputable def eCM (d p : Nat) : List Int := if 60 ≤ wCh n B (wSk n B p) ∧ wCh n B (wSk n B p) ≤ 62 then A 3 d (wSk n B p + 1) ++ eBd (wG n B 3 d (wSk n B p + 1)) (fun _ => [-wCh n B (wSk n B p)]) else []
noncomputable def eSUq (d p : Nat) : List Int := if wSk n B p = p then eSU n B A d p else A 3 d (wSk n B p)
noncomputable def eUN (d p : Nat) : List Int := if wCh n B (wSk n B p) = 33 then (if 6 ≤ d then [] else A 5 (d + 1) (wSk n B p + 1) ++ eBd (wG n B 5 (d + 1) (wSk n B p + 1)) (fun _ => [-33])) else if wCh n B (wSk n B p) = 40 then (if 6 ≤ d then [] else A 10 (d + 1) (wSk n B p + 1)) else eSUq n B A d p ++ eBd (wG n B 3 d (wSk n B p)) (fun s => A 6 d s)
noncomputable def eAN (d p : Nat) : List Int := if wCh n B (wSk n B p) = 38 then A 5 d (wSk n B p + 1) ++ eBd (wG n B 5 d (wSk n B p + 1)) (fun a => -38 :: A 7 d a) else []
noncomputable def eTR (d p : Nat) : List Int := eUN n B A d p ++ eBd (wG n B 5 d p) (fun a => A 7 d a)
noncomputable def eOT (d p : Nat) : List Int := if wCh n B (wSk n B p) = 124 then A 8 d (wSk n B p + 1) ++ eBd (wG n B 8 d (wSk n B p + 1)) (fun a => -124 :: A 9 d a) else []
noncomputable def eCO (d p : Nat) : List Int := eTR n B A d p ++ eBd (wG n B 8 d p) (fun a => A 9 d a)
noncomputable def eCOq (d p : Nat) : List Int := if wSk n B p = p then eCO n B A d p else A 10 d (wSk n B p)
noncomputable def eTB (d p : Nat) : List Int := eCM n B A d p ++ eBd (wG n B 6 d p) (fun a => A 7 d a)
noncomputable def eCB (d p : Nat) : List Int := eTB n B A d p ++ eBd (wG n B 15 d p) (fun a => A 9 d a)
noncomputable def eC2 (p : Nat) : List Int := if wCh n B (wSk n B p) = 63 then (if c = true then [-63] else []) ++ A 3 0 (wSk n B p + 1) else []
noncomputable def eC1 (p : Nat) : List Int := if wCh n B (wSk n B p) = 33 ∨ wCh n B (wSk n B p) = 40 then eCOq n B A 0 p ++ eBd (wG n B 10 0 (wSk n B p)) (fun a => A 18 0 a) else eSUq n B A 0 p ++ eBd (wG n B 3 0 (wSk n B p)) (fun s => if 60 ≤ wCh n B (wSk n B s) ∧ wCh n B (wSk n B s) ≤ 62 then A 16 0 (wSk n B s) ++ eBd (wG n B 16 0 (wSk n B s)) (fun b => A 18 0 b) else [])
noncomputable def eCL (p : Nat) : List Int := if wCh n B (wSk n B p) = 121 then (if wCh n B (wSk n B (wSk n B p + 1)) = 58 then A 17 0 (wSk n B (wSk n B p + 1) + 1) else []) else []
noncomputable def eLT (p : Nat) : List Int := eCL n B A p ++ eBd (wG n B 11 0 p) (fun a => (if c = true then [-59] else []) ++ (if wCh n B (wSk n B a) = 59 then A 12 0 (wSk n B a + 1) else []))
noncomputable def eAll (X d p : Nat) : List Int := match X with
  | 0 => eAT n B A d p
  | 1 => eTM n B A d p
  | 2 => eTT n B A d p
  | 3 => eSU n B A d p
  | 4 => eST n B A d p
  | 5 => eUN n B A d p
  | 6 => eCM n B A d p
  | 7 => eAN n B A d p
  | 8 => eTR n B A d p
  | 9 => eOT n B A d p
  | 10 => eCO n B A d p
  | 11 => eCL n B A p
  | 12 => eLT c n B A p
  | 15 => eTB n B A d p
  | 16 => eCB n B A d p
  | 17 => eC1 n B A p
  | 18 => eC2 c n B A p
  | _ => []
end ESTEP
noncomputable def eAc (T : Nat → Nat → Nat → List Int) (p : Nat) (X d p' : Nat) : List Int := if p < p' ∧ p' ≤ n then T X d p' else []
noncomputable def eTb : Nat → Nat → Nat → Nat → List Int
  | 0, _, _, _ => []
  | j + 1, X, d, p => if p + j = n then eAll c n B (eAc n (eTb j) p) X d p else eTb j X d p
noncomputable def eG (X d p : Nat) : List Int := eTb c n B (n + 1) X d p
end TOKD
section TOKO
variable {c : Bool} {n : Nat} {B : Nat → Int}
theorem eTb_st {X d p j : Nat} (h : n < p + j) : ∀ k, eTb c n B (j + k) X d p = eTb c n B j X d p
  | 0 => rfl
  | k + 1 => by
    show (if p + (j + k) = n then _ else eTb c n B (j + k) X d p) = _
    rw [if_neg (by omega)]
    exact eTb_st h k
theorem eG_tb {X d p j : Nat} (h : n < p + j) (hj : j ≤ n + 1) : eTb c n B j X d p = eG c n B X d p := by
  have := eTb_st (c := c) (B := B) (X := X) (d := d) h (n + 1 - j)
  rw [show j + (n + 1 - j) = n + 1 by omega] at this
  exact this.symm
theorem eAc_eq (p : Nat) : eAc n (eTb c n B (n - p)) p = eAc n (eG c n B) p := by
  funext X d p'
  unfold eAc
  by_cases h : p < p' ∧ p' ≤ n
  · rw [if_pos h, if_pos h]
    exact eG_tb (by omega) (by omega)
  · rw [if_neg h, if_neg h]
theorem eG_eq {X d p : Nat} (hp : p ≤ n) : eG c n B X d p = eAll c n B (eAc n (eG c n B) p) X d p := by
  rw [← eG_tb (j := n - p + 1) (by omega) (by omega)]
  show (if p + (n - p) = n then _ else _) = _
  rw [if_pos (by omega), eAc_eq]
theorem eAc_in {X d p p' : Nat} (h1 : p < p') (h2 : p' ≤ n) : eAc n (eG c n B) p X d p' = eG c n B X d p' := if_pos ⟨h1, h2⟩
theorem eBd_congr {r : Int} {k k' : Nat → List Int} (h : ∀ a : Nat, r = (a : Int) → k a = k' a) : eBd r k = eBd r k' := by
  unfold eBd
  by_cases hr : r < 0
  · rw [if_pos hr, if_pos hr]
  · rw [if_neg hr, if_neg hr]
    exact h _ (by omega)
/-- a part that ends behind its beginning -/
theorem eGd {X d p a : Nat} (hX : wX X = true) (hS : wS X = 1) (hp : p ≤ n) (ha : wG n B X d p = (a : Int)) : p < a ∧ a ≤ n := by
  have hg := (wG_gd (B := B) X d p hX hp).2 (by omega)
  rw [hS] at hg
  omega
theorem eGd0 {X d p a : Nat} (hX : wX X = true) (hp : p ≤ n) (ha : wG n B X d p = (a : Int)) : p ≤ a ∧ a ≤ n := by
  have hg := (wG_gd (B := B) X d p hX hp).2 (by omega)
  have : (0 : Int) ≤ (wS X : Int) := Int.natCast_nonneg _
  omega
theorem eE_AT {d p : Nat} (hp : p ≤ n) : eG c n B 0 d p = if wCh n B (wSk n B p) = 91 then (if 6 ≤ d then [] else eG c n B 3 (d + 1) (wSk n B p + 1)) else if (wCh n B (wSk n B p) = 100 ∨ wCh n B (wSk n B p) = 101 ∨ wCh n B (wSk n B p) = 104 ∨ wCh n B (wSk n B p) = 105 ∨ wCh n B (wSk n B p) = 110 ∨ wCh n B (wSk n B p) = 119) then [10000 + wLi (wCh n B (wSk n B p))] else if 48 ≤ wCh n B (wSk n B p) ∧ wCh n B (wSk n B p) ≤ 57 then (if wNu n B (wSk n B p) < 0 then [] else [wNv n B (wSk n B p)]) else [] := by
  obtain ⟨s1, s2⟩ := wSk_le (B := B) hp
  rw [eG_eq hp]
  show eAT n B _ d p = _
  unfold eAT
  by_cases hc : wCh n B (wSk n B p) = 91
  · have := wCh_lt (n := n) (B := B) (p := wSk n B p) (by omega)
    rw [if_pos hc, if_pos hc, eAc_in (by omega) (by omega)]
  · rw [if_neg hc, if_neg hc]
theorem eE_seq {X Y Z d p : Nat} (hY : wX Y = true) (hS : wS Y = 1) (hp : p ≤ n) (e1 : eAll c n B (eAc n (eG c n B) p) X d p = eAll c n B (eAc n (eG c n B) p) Y d p ++ eBd (wG n B Y d p) (fun a => eAc n (eG c n B) p Z d a)) : eG c n B X d p = eG c n B Y d p ++ eBd (wG n B Y d p) (fun a => eG c n B Z d a) := by
  rw [eG_eq (X := X) hp, e1, ← eG_eq (X := Y) hp]
  congr 1
  refine eBd_congr (fun a ha => ?_)
  have := eGd hY hS hp ha
  exact eAc_in this.1 this.2
theorem eE_TM {d p : Nat} (hp : p ≤ n) : eG c n B 1 d p = eG c n B 0 d p ++ eBd (wG n B 0 d p) (fun a => eG c n B 2 d a) := eE_seq rfl rfl hp rfl
theorem eE_SU {d p : Nat} (hp : p ≤ n) : eG c n B 3 d p = eG c n B 1 d p ++ eBd (wG n B 1 d p) (fun a => eG c n B 4 d a) := eE_seq rfl rfl hp rfl
theorem eE_TR {d p : Nat} (hp : p ≤ n) : eG c n B 8 d p = eG c n B 5 d p ++ eBd (wG n B 5 d p) (fun a => eG c n B 7 d a) := eE_seq rfl rfl hp rfl
theorem eE_CO {d p : Nat} (hp : p ≤ n) : eG c n B 10 d p = eG c n B 8 d p ++ eBd (wG n B 8 d p) (fun a => eG c n B 9 d a) := eE_seq rfl rfl hp rfl
theorem eE_TB {d p : Nat} (hp : p ≤ n) : eG c n B 15 d p = eG c n B 6 d p ++ eBd (wG n B 6 d p) (fun a => eG c n B 7 d a) := eE_seq rfl rfl hp rfl
theorem eE_CB {d p : Nat} (hp : p ≤ n) : eG c n B 16 d p = eG c n B 15 d p ++ eBd (wG n B 15 d p) (fun a => eG c n B 9 d a) := eE_seq rfl rfl hp rfl
theorem eE_tail {X Y d p : Nat} {s : Int} (hY : wX Y = true) (hS : wS Y = 1) (hp : p ≤ n) (hq : wSk n B p < n) (e1 : eAll c n B (eAc n (eG c n B) p) X d p = eAc n (eG c n B) p Y d (wSk n B p + 1) ++ eBd (wG n B Y d (wSk n B p + 1)) (fun a => s :: eAc n (eG c n B) p X d a)) : eG c n B X d p = eG c n B Y d (wSk n B p + 1) ++ eBd (wG n B Y d (wSk n B p + 1)) (fun a => s :: eG c n B X d a) := by
  obtain ⟨s1, s2⟩ := wSk_le (B := B) hp
  rw [eG_eq hp, e1, eAc_in (by omega) (by omega)]
  congr 1
  refine eBd_congr (fun a ha => ?_)
  have := eGd hY hS (show wSk n B p + 1 ≤ n by omega) ha
  rw [eAc_in (by omega) this.2]
theorem eE_TT {d p : Nat} (hp : p ≤ n) : eG c n B 2 d p = if wCh n B (wSk n B p) = 42 ∨ wCh n B (wSk n B p) = 47 then eG c n B 0 d (wSk n B p + 1) ++ eBd (wG n B 0 d (wSk n B p + 1)) (fun a => -wCh n B (wSk n B p) :: eG c n B 2 d a) else [] := by
  by_cases hc : wCh n B (wSk n B p) = 42 ∨ wCh n B (wSk n B p) = 47
  · rw [if_pos hc]
    refine eE_tail rfl rfl hp (wCh_lt (B := B) (by omega)) ?_
    show eTT n B _ d p = _
    unfold eTT
    rw [if_pos hc]
  · rw [if_neg hc, eG_eq hp]
    show eTT n B _ d p = _
    unfold eTT
    rw [if_neg hc]
theorem eE_ST {d p : Nat} (hp : p ≤ n) : eG c n B 4 d p = if wCh n B (wSk n B p) = 43 ∨ wCh n B (wSk n B p) = 45 then eG c n B 1 d (wSk n B p + 1) ++ eBd (wG n B 1 d (wSk n B p + 1)) (fun a => -wCh n B (wSk n B p) :: eG c n B 4 d a) else [] := by
  by_cases hc : wCh n B (wSk n B p) = 43 ∨ wCh n B (wSk n B p) = 45
  · rw [if_pos hc]
    refine eE_tail rfl rfl hp (wCh_lt (B := B) (by omega)) ?_
    show eST n B _ d p = _
    unfold eST
    rw [if_pos hc]
  · rw [if_neg hc, eG_eq hp]
    show eST n B _ d p = _
    unfold eST
    rw [if_neg hc]
theorem eE_AN {d p : Nat} (hp : p ≤ n) : eG c n B 7 d p = if wCh n B (wSk n B p) = 38 then eG c n B 5 d (wSk n B p + 1) ++ eBd (wG n B 5 d (wSk n B p + 1)) (fun a => -38 :: eG c n B 7 d a) else [] := by
  by_cases hc : wCh n B (wSk n B p) = 38
  · rw [if_pos hc]
    refine eE_tail rfl rfl hp (wCh_lt (B := B) (by omega)) ?_
    show eAN n B _ d p = _
    unfold eAN
    rw [if_pos hc]
  · rw [if_neg hc, eG_eq hp]
    show eAN n B _ d p = _
    unfold eAN
    rw [if_neg hc]
theorem eE_OT {d p : Nat} (hp : p ≤ n) : eG c n B 9 d p = if wCh n B (wSk n B p) = 124 then eG c n B 8 d (wSk n B p + 1) ++ eBd (wG n B 8 d (wSk n B p + 1)) (fun a => -124 :: eG c n B 9 d a) else [] := by
  by_cases hc : wCh n B (wSk n B p) = 124
  · rw [if_pos hc]
    refine eE_tail rfl rfl hp (wCh_lt (B := B) (by omega)) ?_
    show eOT n B _ d p = _
    unfold eOT
    rw [if_pos hc]
  · rw [if_neg hc, eG_eq hp]
    show eOT n B _ d p = _
    unfold eOT
    rw [if_neg hc]
theorem eE_CM {d p : Nat} (hp : p ≤ n) : eG c n B 6 d p = if 60 ≤ wCh n B (wSk n B p) ∧ wCh n B (wSk n B p) ≤ 62 then eG c n B 3 d (wSk n B p + 1) ++ eBd (wG n B 3 d (wSk n B p + 1)) (fun _ => [-wCh n B (wSk n B p)]) else [] := by
  obtain ⟨s1, s2⟩ := wSk_le (B := B) hp
  rw [eG_eq hp]
  show eCM n B _ d p = _
  unfold eCM
  by_cases hc : 60 ≤ wCh n B (wSk n B p) ∧ wCh n B (wSk n B p) ≤ 62
  · have := wCh_lt (n := n) (B := B) (p := wSk n B p) (by omega)
    rw [if_pos hc, if_pos hc, eAc_in (by omega) (by omega)]
  · rw [if_neg hc, if_neg hc]
theorem eE_SUq {d p : Nat} (hp : p ≤ n) : eSUq n B (eAc n (eG c n B) p) d p = eG c n B 3 d (wSk n B p) := by
  obtain ⟨s1, s2⟩ := wSk_le (B := B) hp
  unfold eSUq
  split
  · rename_i he
    rw [he, eG_eq hp]
    rfl
  · exact eAc_in (by omega) s2
theorem eE_COq {d p : Nat} (hp : p ≤ n) : eCOq n B (eAc n (eG c n B) p) d p = eG c n B 10 d (wSk n B p) := by
  obtain ⟨s1, s2⟩ := wSk_le (B := B) hp
  unfold eCOq
  split
  · rename_i he
    rw [he, eG_eq hp]
    rfl
  · exact eAc_in (by omega) s2
theorem eE_UN {d p : Nat} (hp : p ≤ n) : eG c n B 5 d p = if wCh n B (wSk n B p) = 33 then (if 6 ≤ d then [] else eG c n B 5 (d + 1) (wSk n B p + 1) ++ eBd (wG n B 5 (d + 1) (wSk n B p + 1)) (fun _ => [-33])) else if wCh n B (wSk n B p) = 40 then (if 6 ≤ d then [] else eG c n B 10 (d + 1) (wSk n B p + 1)) else eG c n B 3 d (wSk n B p) ++ eBd (wG n B 3 d (wSk n B p)) (fun s => eG c n B 6 d s) := by
  obtain ⟨s1, s2⟩ := wSk_le (B := B) hp
  rw [eG_eq hp]
  show eUN n B _ d p = _
  unfold eUN
  by_cases hc : wCh n B (wSk n B p) = 33
  · have := wCh_lt (n := n) (B := B) (p := wSk n B p) (by omega)
    rw [if_pos hc, if_pos hc, eAc_in (by omega) (by omega)]
  · rw [if_neg hc, if_neg hc]
    by_cases hc2 : wCh n B (wSk n B p) = 40
    · have := wCh_lt (n := n) (B := B) (p := wSk n B p) (by omega)
      rw [if_pos hc2, if_pos hc2, eAc_in (by omega) (by omega)]
    · rw [if_neg hc2, if_neg hc2, eE_SUq hp]
      congr 1
      refine eBd_congr (fun a ha => ?_)
      have := eGd rfl rfl s2 ha
      exact eAc_in (by omega) this.2
theorem eE_C2 {p : Nat} (hp : p ≤ n) : eG c n B 18 0 p = if wCh n B (wSk n B p) = 63 then (if c = true then [-63] else []) ++ eG c n B 3 0 (wSk n B p + 1) else [] := by
  obtain ⟨s1, s2⟩ := wSk_le (B := B) hp
  rw [eG_eq hp]
  show eC2 c n B _ p = _
  unfold eC2
  by_cases hc : wCh n B (wSk n B p) = 63
  · have := wCh_lt (n := n) (B := B) (p := wSk n B p) (by omega)
    rw [if_pos hc, if_pos hc, eAc_in (by omega) (by omega)]
  · rw [if_neg hc, if_neg hc]
theorem eE_C1 {p : Nat} (hp : p ≤ n) : eG c n B 17 0 p = if wCh n B (wSk n B p) = 33 ∨ wCh n B (wSk n B p) = 40 then eG c n B 10 0 (wSk n B p) ++ eBd (wG n B 10 0 (wSk n B p)) (fun a => eG c n B 18 0 a) else eG c n B 3 0 (wSk n B p) ++ eBd (wG n B 3 0 (wSk n B p)) (fun s => if 60 ≤ wCh n B (wSk n B s) ∧ wCh n B (wSk n B s) ≤ 62 then eG c n B 16 0 (wSk n B s) ++ eBd (wG n B 16 0 (wSk n B s)) (fun b => eG c n B 18 0 b) else []) := by
  obtain ⟨s1, s2⟩ := wSk_le (B := B) hp
  rw [eG_eq hp]
  show eC1 n B _ p = _
  unfold eC1
  by_cases hc : wCh n B (wSk n B p) = 33 ∨ wCh n B (wSk n B p) = 40
  · rw [if_pos hc, if_pos hc, eE_COq hp]
    congr 1
    refine eBd_congr (fun a ha => ?_)
    have := eGd rfl rfl s2 ha
    exact eAc_in (by omega) this.2
  · rw [if_neg hc, if_neg hc, eE_SUq hp]
    congr 1
    refine eBd_congr (fun a ha => ?_)
    have := eGd rfl rfl s2 ha
    obtain ⟨t1, t2⟩ := wSk_le (n := n) (B := B) (p := a) (by omega)
    by_cases hc2 : 60 ≤ wCh n B (wSk n B a) ∧ wCh n B (wSk n B a) ≤ 62
    · rw [if_pos hc2, if_pos hc2, eAc_in (by omega) t2]
      congr 1
      refine eBd_congr (fun b hb => ?_)
      have := eGd rfl rfl t2 hb
      exact eAc_in (by omega) this.2
    · rw [if_neg hc2, if_neg hc2]
theorem eE_CL {p : Nat} (hp : p ≤ n) : eG c n B 11 0 p = if wCh n B (wSk n B p) = 121 then (if wCh n B (wSk n B (wSk n B p + 1)) = 58 then eG c n B 17 0 (wSk n B (wSk n B p + 1) + 1) else []) else [] := by
  obtain ⟨s1, s2⟩ := wSk_le (B := B) hp
  rw [eG_eq hp]
  show eCL n B _ p = _
  unfold eCL
  by_cases hc : wCh n B (wSk n B p) = 121
  · have := wCh_lt (n := n) (B := B) (p := wSk n B p) (by omega)
    obtain ⟨t1, t2⟩ := wSk_le (n := n) (B := B) (p := wSk n B p + 1) (by omega)
    rw [if_pos hc, if_pos hc]
    by_cases hc2 : wCh n B (wSk n B (wSk n B p + 1)) = 58
    · have := wCh_lt (n := n) (B := B) (p := wSk n B (wSk n B p + 1)) (by omega)
      rw [if_pos hc2, if_pos hc2, eAc_in (by omega) (by omega)]
    · rw [if_neg hc2, if_neg hc2]
  · rw [if_neg hc, if_neg hc]
theorem eE_LT {p : Nat} (hp : p ≤ n) : eG c n B 12 0 p = eG c n B 11 0 p ++ eBd (wG n B 11 0 p) (fun a => (if c = true then [-59] else []) ++ (if wCh n B (wSk n B a) = 59 then eG c n B 12 0 (wSk n B a + 1) else [])) := by
  rw [eG_eq (X := 12) hp]
  show eLT c n B _ p = _
  unfold eLT
  have e11 : eCL n B (eAc n (eG c n B) p) p = eG c n B 11 0 p := (eG_eq (c := c) (B := B) (X := 11) (d := 0) hp).symm
  rw [e11]
  congr 1
  refine eBd_congr (fun a ha => ?_)
  have := eGd rfl rfl hp ha
  obtain ⟨t1, t2⟩ := wSk_le (n := n) (B := B) (p := a) (by omega)
  congr 1
  by_cases hc : wCh n B (wSk n B a) = 59
  · have := wCh_lt (n := n) (B := B) (p := wSk n B a) (by omega)
    rw [if_pos hc, if_pos hc, eAc_in (by omega) (by omega)]
  · rw [if_neg hc, if_neg hc]
end TOKO
