/-! what the tokens of a law's text make of a stack: the class's machine and the reference's alike -/
section EXE
noncomputable def Ex (L : Nat → Int) (l st c st' : List Int) : Prop := cMa L l false st = cMa L c false st' ∧ wEx L l st = wEx L c st'
theorem Ex_t {L : Nat → Int} {l st c st' e st2 : List Int} (h1 : Ex L l st c st') (h2 : Ex L c st' e st2) : Ex L l st e st2 := ⟨h1.1.trans h2.1, h1.2.trans h2.2⟩
theorem Ex_r {L : Nat → Int} {l st : List Int} : Ex L l st l st := ⟨rfl, rfl⟩
noncomputable def bdk (b : Bool) (v : Int) : Prop := -1000000 ≤ v ∧ v ≤ 1000000 ∧ (b = true → v = 0 ∨ v = 1)
theorem bdk_f {b : Bool} {v : Int} (h : bdk b v) : bdk false v := ⟨h.1, h.2.1, fun z => by cases z⟩
theorem bdk_01 {v : Int} {b : Bool} (h : v = 0 ∨ v = 1) : bdk b v := ⟨by omega, by omega, fun _ => h⟩
theorem Ex_push {L : Nat → Int} {s : Int} {c st : List Int} (hs : 0 ≤ s) (hl : st.length < 64) : Ex L (s :: c) st c (cVal L s :: st) := by
  constructor
  · show (if 0 ≤ s then (if st.length < 64 then cMa L c false (cVal L s :: st) else cMa L c false st) else _) = _
    rw [if_pos hs, if_pos hl]
  · show (if 0 ≤ s then wEx L c (cVal L s :: st) else _) = _
    rw [if_pos hs]
theorem sgOk_n {g : Int} (h : sgOk g) : 0 < g ∧ g ≠ 59 ∧ g ≠ 63 ∧ g ≠ 33 := by
  unfold sgOk at h
  omega
theorem Ex_op {L : Nat → Int} {g x y : Int} {c st : List Int} (hg : sgOk g) : Ex L (-g :: c) (y :: x :: st) c (hld (rOp g x y) :: st) := by
  obtain ⟨n1, n2, n3, n4⟩ := sgOk_n hg
  constructor
  · show (if 0 ≤ -g then _ else if -g = -59 then y else if -g = -63 then _ else if -g = -33 then _ else cMa L c false (hld (rOp (- -g) x y) :: st)) = _
    rw [if_neg (by omega), if_neg (by omega), if_neg (by omega), if_neg (by omega), Int.neg_neg]
  · show (if 0 ≤ -g then _ else if -g = -33 then _ else wEx L c (hld (rOp (- -g) x y) :: st)) = _
    rw [if_neg (by omega), if_neg (by omega), Int.neg_neg]
theorem Ex_not {L : Nat → Int} {x : Int} {c st : List Int} (hx : x = 0 ∨ x = 1) : Ex L (-33 :: c) (x :: st) c ((1 - x) :: st) := by
  constructor
  · show (if (0 : Int) ≤ -33 then _ else if (-33 : Int) = -59 then x else if (-33 : Int) = -63 then _ else if (-33 : Int) = -33 then cMa L c false ((if x = 0 then 1 else 0) :: st) else _) = _
    rw [if_neg (by decide), if_neg (by decide), if_neg (by decide), if_pos rfl]
    rcases hx with rfl | rfl <;> rfl
  · show (if (0 : Int) ≤ -33 then _ else if (-33 : Int) = -33 then wEx L c ((1 - x) :: st) else _) = _
    rw [if_neg (by decide), if_pos rfl]
theorem rOp_01 {g x y : Int} (hg : g = 61 ∨ g = 60 ∨ g = 62 ∨ g = 38 ∨ g = 124) : rOp g x y = 0 ∨ rOp g x y = 1 := by
  unfold rOp
  rw [if_neg (by omega), if_neg (by omega), if_neg (by omega), if_neg (by omega)]
  repeat' split
  all_goals first | exact Or.inl rfl | exact Or.inr rfl
theorem hld_b01 {v : Int} (h : v = 0 ∨ v = 1) : hld v = 0 ∨ hld v = 1 := by
  rcases h with rfl | rfl
  · exact Or.inl rfl
  · exact Or.inr rfl
variable (L : Nat → Int) (n : Nat) (B : Nat → Int)
noncomputable def evA (o : Bool) (w X d p : Nat) : Prop := d ≤ 6 → ∀ a : Nat, wG n B X d p = (a : Int) → ∃ v, bdk o v ∧ ∀ c st : List Int, st.length + w + 2 * (6 - d) ≤ 64 → Ex L (eG false n B X d p ++ c) st c (v :: st)
noncomputable def evB (i o : Bool) (w X d p : Nat) : Prop := d ≤ 6 → ∀ a : Nat, wG n B X d p = (a : Int) → ∀ x, bdk i x → ∃ v, bdk o v ∧ ∀ c st : List Int, st.length + w + 2 * (6 - d) ≤ 64 → Ex L (eG false n B X d p ++ c) (x :: st) c (v :: st)
noncomputable def evP (X d p : Nat) : Prop := match X with
  | 0 => evA L n B false 1 0 d p
  | 1 => evA L n B false 2 1 d p
  | 2 => evB L n B false false 2 2 d p
  | 3 => evA L n B false 3 3 d p
  | 4 => evB L n B false false 3 4 d p
  | 5 => evA L n B true 4 5 d p
  | 6 => evB L n B false true 4 6 d p
  | 7 => evB L n B true true 5 7 d p
  | 8 => evA L n B true 5 8 d p
  | 9 => evB L n B true true 6 9 d p
  | 10 => evA L n B true 6 10 d p
  | 15 => evB L n B false true 5 15 d p
  | 16 => evB L n B false true 6 16 d p
  | _ => True
/-- the parts below a clause -/
noncomputable def xE (X : Nat) : Bool := decide (X < 11) || decide (X = 15 ∨ X = 16)
noncomputable def tkP (X d p : Nat) : Prop := xE X = true → eG true n B X d p = eG false n B X d p ∧ ∀ s ∈ eG false n B X d p, tkE s
noncomputable def exP (X d p : Nat) : Prop := tkP n B X d p ∧ evP L n B X d p
end EXE
section EXO
variable {L : Nat → Int} {n : Nat} {B : Nat → Int}
theorem evA_seq {o1 o2 : Bool} {w1 w2 w X Y Z d p : Nat} (hw1 : w1 ≤ w) (hw2 : w2 ≤ w) (hwX : wX Y = true) (hS : wS Y = 1) (hp : p ≤ n) (h1 : evA L n B o1 w1 Y d p) (h2 : ∀ e, p < e → e ≤ n → evB L n B o1 o2 w2 Z d e) (ew : wG n B X d p = wBd (wG n B Y d p) (fun a => wG n B Z d a)) (ee : eG false n B X d p = eG false n B Y d p ++ eBd (wG n B Y d p) (fun a => eG false n B Z d a)) : evA L n B o2 w X d p := by
  intro hd a ha
  rw [ew] at ha
  rcases wBd_cs (k := fun a => wG n B Z d a) (wG_gd (n := n) (B := B) Y d p hwX hp) with ⟨z1, z2⟩ | ⟨u, z1, z2, z3, z4⟩
  · omega
  · rw [hS] at z2
    obtain ⟨v1, b1, f1⟩ := h1 hd u z1
    obtain ⟨v2, b2, f2⟩ := h2 u (by omega) z3 hd a (z4.symm.trans ha) v1 b1
    refine ⟨v2, b2, fun c st hl => ?_⟩
    rw [ee, eBd_u z1, List.append_assoc]
    exact Ex_t (f1 _ st (by omega)) (f2 c st (by omega))
theorem evB_seq {i o1 o2 : Bool} {w1 w2 w X Y Z d p : Nat} (hw1 : w1 ≤ w) (hw2 : w2 ≤ w) (hwX : wX Y = true) (hS : wS Y = 1) (hp : p ≤ n) (h1 : evB L n B i o1 w1 Y d p) (h2 : ∀ e, p < e → e ≤ n → evB L n B o1 o2 w2 Z d e) (ew : wG n B X d p = wBd (wG n B Y d p) (fun a => wG n B Z d a)) (ee : eG false n B X d p = eG false n B Y d p ++ eBd (wG n B Y d p) (fun a => eG false n B Z d a)) : evB L n B i o2 w X d p := by
  intro hd a ha x hx
  rw [ew] at ha
  rcases wBd_cs (k := fun a => wG n B Z d a) (wG_gd (n := n) (B := B) Y d p hwX hp) with ⟨z1, z2⟩ | ⟨u, z1, z2, z3, z4⟩
  · omega
  · rw [hS] at z2
    obtain ⟨v1, b1, f1⟩ := h1 hd u z1 x hx
    obtain ⟨v2, b2, f2⟩ := h2 u (by omega) z3 hd a (z4.symm.trans ha) v1 b1
    refine ⟨v2, b2, fun c st hl => ?_⟩
    rw [ee, eBd_u z1, List.append_assoc]
    exact Ex_t (f1 _ st (by omega)) (f2 c st (by omega))
theorem evB_tail {b : Bool} {w1 w X Y d p : Nat} {g : Int} (hg : sgOk g) (hb : ∀ x y, bdk b x → bdk b y → bdk b (hld (rOp g x y))) (hw1 : w1 + 1 ≤ w) (hwX : wX Y = true) (hS : wS Y = 1) (hp : p ≤ n) (hq : wSk n B p < n) (h1 : evA L n B b w1 Y d (wSk n B p + 1)) (h2 : ∀ e, p < e → e ≤ n → evB L n B b b w X d e) (ew : wG n B X d p = wBd (wG n B Y d (wSk n B p + 1)) (fun a => wG n B X d a)) (ee : eG false n B X d p = eG false n B Y d (wSk n B p + 1) ++ eBd (wG n B Y d (wSk n B p + 1)) (fun a => -g :: eG false n B X d a)) : evB L n B b b w X d p := by
  intro hd a ha x hx
  rw [ew] at ha
  have s0 := wSk_le (B := B) hp
  rcases wBd_cs (k := fun a => wG n B X d a) (wG_gd (n := n) (B := B) Y d (wSk n B p + 1) hwX (by omega)) with ⟨z1, z2⟩ | ⟨u, z1, z2, z3, z4⟩
  · omega
  · rw [hS] at z2
    obtain ⟨v1, b1, f1⟩ := h1 hd u z1
    obtain ⟨v2, b2, f2⟩ := h2 u (by omega) z3 hd a (z4.symm.trans ha) _ (hb x v1 hx b1)
    refine ⟨v2, b2, fun c st hl => ?_⟩
    rw [ee, eBd_u z1, List.append_assoc]
    exact Ex_t (f1 _ (x :: st) (by rw [List.length_cons]; omega)) (Ex_t (Ex_op hg) (f2 c st (by omega)))
theorem evB_end {b : Bool} {w X d p : Nat} (ee : eG false n B X d p = []) : evB L n B b b w X d p := by
  intro _ a _ x hx
  refine ⟨x, hx, fun c st _ => ?_⟩
  rw [ee]
  exact Ex_r
theorem tk_seq {X Y Z d p : Nat} (hY : xE Y = true) (hZ : xE Z = true) (hwX : wX Y = true) (hS : wS Y = 1) (hp : p ≤ n) (h1 : tkP n B Y d p) (h2 : ∀ e, p < e → e ≤ n → tkP n B Z d e) (ee : ∀ c, eG c n B X d p = eG c n B Y d p ++ eBd (wG n B Y d p) (fun a => eG c n B Z d a)) : tkP n B X d p := by
  intro _
  obtain ⟨a1, a2⟩ := h1 hY
  rcases wBd_cs (k := fun a => wG n B Z d a) (wG_gd (n := n) (B := B) Y d p hwX hp) with ⟨z1, z2⟩ | ⟨u, z1, z2, z3, z4⟩
  · rw [ee, ee, eBd_n z1, eBd_n z1, a1]
    refine ⟨rfl, fun s hs => ?_⟩
    rw [List.append_nil] at hs
    exact a2 s hs
  · rw [hS] at z2
    obtain ⟨b1, b2⟩ := h2 u (by omega) z3 hZ
    rw [ee, ee, eBd_u z1, eBd_u z1, a1, b1]
    refine ⟨rfl, fun s hs => ?_⟩
    rcases List.mem_append.mp hs with y | y
    · exact a2 s y
    · exact b2 s y
theorem tk_tail {X Y d p : Nat} {g : Int} (hg : sgOk g) (hX : xE X = true) (hY : xE Y = true) (hwX : wX Y = true) (hS : wS Y = 1) (hp : p ≤ n) (hq : wSk n B p < n) (h1 : tkP n B Y d (wSk n B p + 1)) (h2 : ∀ e, p < e → e ≤ n → tkP n B X d e) (ee : ∀ c, eG c n B X d p = eG c n B Y d (wSk n B p + 1) ++ eBd (wG n B Y d (wSk n B p + 1)) (fun a => -g :: eG c n B X d a)) : tkP n B X d p := by
  intro _
  have s0 := wSk_le (B := B) hp
  obtain ⟨a1, a2⟩ := h1 hY
  rcases wBd_cs (k := fun a => wG n B X d a) (wG_gd (n := n) (B := B) Y d (wSk n B p + 1) hwX (by omega)) with ⟨z1, z2⟩ | ⟨u, z1, z2, z3, z4⟩
  · rw [ee, ee, eBd_n z1, eBd_n z1, a1]
    refine ⟨rfl, fun s hs => ?_⟩
    rw [List.append_nil] at hs
    exact a2 s hs
  · rw [hS] at z2
    obtain ⟨b1, b2⟩ := h2 u (by omega) z3 hX
    rw [ee, ee, eBd_u z1, eBd_u z1, a1, b1]
    refine ⟨rfl, fun s hs => ?_⟩
    rcases List.mem_append.mp hs with y | y
    · exact a2 s y
    · rcases List.mem_cons.mp y with y | y
      · rw [y]
        exact Or.inr (Or.inr (by rw [Int.neg_neg]; exact hg))
      · exact b2 s y
theorem tk_end {X d p : Nat} (ee : ∀ c, eG c n B X d p = []) : tkP n B X d p := by
  intro _
  rw [ee, ee]
  exact ⟨rfl, fun s hs => by cases hs⟩
theorem hb_num {g : Int} : ∀ x y, bdk false x → bdk false y → bdk false (hld (rOp g x y)) := fun x y _ _ => ⟨(hld_b _).1, (hld_b _).2, fun z => by cases z⟩
theorem hb_bool {g : Int} (hg : g = 61 ∨ g = 60 ∨ g = 62 ∨ g = 38 ∨ g = 124) {b : Bool} : ∀ x y, bdk b x → bdk b y → bdk b (hld (rOp g x y)) := fun x y _ _ => bdk_01 (hld_b01 (rOp_01 hg))

theorem wLi_b (x : Int) : 0 ≤ wLi x ∧ wLi x ≤ 5 := by
  unfold wLi
  repeat' split
  all_goals omega
theorem wNv_b0 {q : Nat} (h : 48 ≤ wCh n B q ∧ wCh n B q ≤ 57) : 0 ≤ wNv n B q ∧ wNv n B q ≤ 9999 := by
  unfold wNv
  repeat' split
  all_goals omega
theorem cVal_n {v : Int} (h : v ≤ 9999) : cVal L v = v := if_neg (by omega)
theorem cVal_l {i : Int} (h : 0 ≤ i) : cVal L (10000 + i) = L i.toNat := by
  unfold cVal
  rw [if_pos (by omega), show (10000 + i - 10000).toNat = i.toNat by omega]
theorem ex_AT (hL : ∀ j, j < 6 → -1000000 ≤ L j ∧ L j ≤ 1000000) {d p : Nat} (hp : p ≤ n) (ih : ∀ X d p', p < p' → p' ≤ n → exP L n B X d p') : exP L n B 0 d p := by
  have s0 := wSk_le (B := B) hp
  constructor
  · intro _
    rw [eE_AT hp, eE_AT hp]
    by_cases h1 : wCh n B (wSk n B p) = 91
    · have := wCh_lt (n := n) (B := B) (p := wSk n B p) (by omega)
      rw [if_pos h1, if_pos h1]
      by_cases h2 : 6 ≤ d
      · rw [if_pos h2, if_pos h2]
        exact ⟨rfl, fun s hs => by cases hs⟩
      · rw [if_neg h2, if_neg h2]
        exact (ih 3 (d + 1) (wSk n B p + 1) (by omega) (by omega)).1 rfl
    · rw [if_neg h1, if_neg h1]
      refine ⟨rfl, fun s hs => ?_⟩
      split at hs
      · rw [List.mem_singleton] at hs
        have := wLi_b (wCh n B (wSk n B p))
        exact Or.inl ⟨by omega, by omega⟩
      · split at hs
        · rename_i h3
          split at hs
          · cases hs
          · rw [List.mem_singleton] at hs
            have := wNv_b0 h3
            exact Or.inl ⟨by omega, by omega⟩
        · cases hs
  · show evA L n B false 1 0 d p
    intro hd a ha
    rw [wE_AT hp] at ha
    rw [eE_AT hp]
    by_cases h1 : wCh n B (wSk n B p) = 91
    · have := wCh_lt (n := n) (B := B) (p := wSk n B p) (by omega)
      rw [if_pos h1] at ha ⊢
      by_cases h2 : 6 ≤ d
      · rw [if_pos h2] at ha
        exact (wFl_n ha).elim
      · rw [if_neg h2] at ha ⊢
        rcases wBd_cs (k := fun s => if wCh n B (wSk n B s) = 93 then (wSk n B s : Int) + 1 else wFl (wSk n B s)) (wG_gd (n := n) (B := B) 3 (d + 1) (wSk n B p + 1) rfl (by omega)) with ⟨z1, z2⟩ | ⟨u, z1, z2, z3, z4⟩
        · omega
        · have e3 : evA L n B false 3 3 (d + 1) (wSk n B p + 1) := (ih 3 (d + 1) (wSk n B p + 1) (by omega) (by omega)).2
          obtain ⟨v, b, f⟩ := e3 (by omega) u z1
          exact ⟨v, b, fun c st hl => f c st (by omega)⟩
    · rw [if_neg h1] at ha ⊢
      by_cases h2 : wCh n B (wSk n B p) = 100 ∨ wCh n B (wSk n B p) = 101 ∨ wCh n B (wSk n B p) = 104 ∨ wCh n B (wSk n B p) = 105 ∨ wCh n B (wSk n B p) = 110 ∨ wCh n B (wSk n B p) = 119
      · rw [if_pos h2]
        have w := wLi_b (wCh n B (wSk n B p))
        have hb := hL (wLi (wCh n B (wSk n B p))).toNat (by omega)
        refine ⟨L (wLi (wCh n B (wSk n B p))).toNat, ⟨hb.1, hb.2, fun z => by cases z⟩, fun c st hl => ?_⟩
        rw [← cVal_l (L := L) w.1]
        exact Ex_push (by omega) (by omega)
      · rw [if_neg h2] at ha ⊢
        by_cases h3 : 48 ≤ wCh n B (wSk n B p) ∧ wCh n B (wSk n B p) ≤ 57
        · rw [if_pos h3] at ha ⊢
          rw [if_neg (by omega)]
          have hb := wNv_b0 h3
          refine ⟨wNv n B (wSk n B p), ⟨by omega, by omega, fun z => by cases z⟩, fun c st hl => ?_⟩
          have e := Ex_push (L := L) (s := wNv n B (wSk n B p)) (c := c) (st := st) hb.1 (by omega)
          rw [cVal_n hb.2] at e
          exact e
        · rw [if_neg h3] at ha
          exact (wFl_n ha).elim
theorem ex_UN {d p : Nat} (hp : p ≤ n) (ih : ∀ X d p', p < p' → p' ≤ n → exP L n B X d p') (h3 : exP L n B 3 d (wSk n B p)) : exP L n B 5 d p := by
  have s0 := wSk_le (B := B) hp
  constructor
  · intro _
    rw [eE_UN hp, eE_UN hp]
    by_cases h1 : wCh n B (wSk n B p) = 33
    · have := wCh_lt (n := n) (B := B) (p := wSk n B p) (by omega)
      rw [if_pos h1, if_pos h1]
      by_cases h2 : 6 ≤ d
      · rw [if_pos h2, if_pos h2]
        exact ⟨rfl, fun s hs => by cases hs⟩
      · rw [if_neg h2, if_neg h2]
        obtain ⟨a1, a2⟩ := (ih 5 (d + 1) (wSk n B p + 1) (by omega) (by omega)).1 rfl
        rw [a1]
        refine ⟨rfl, fun s hs => ?_⟩
        rcases List.mem_append.mp hs with y | y
        · exact a2 s y
        · unfold eBd at y
          split at y
          · cases y
          · rw [List.mem_singleton] at y
            exact Or.inr (Or.inl y)
    · rw [if_neg h1, if_neg h1]
      by_cases h4 : wCh n B (wSk n B p) = 40
      · have := wCh_lt (n := n) (B := B) (p := wSk n B p) (by omega)
        rw [if_pos h4, if_pos h4]
        by_cases h2 : 6 ≤ d
        · rw [if_pos h2, if_pos h2]
          exact ⟨rfl, fun s hs => by cases hs⟩
        · rw [if_neg h2, if_neg h2]
          exact (ih 10 (d + 1) (wSk n B p + 1) (by omega) (by omega)).1 rfl
      · rw [if_neg h4, if_neg h4]
        obtain ⟨a1, a2⟩ := h3.1 rfl
        rcases wBd_cs (k := fun s => wG n B 6 d s) (wG_gd (n := n) (B := B) 3 d (wSk n B p) rfl s0.2) with ⟨z1, z2⟩ | ⟨u, z1, z2, z3, z4⟩
        · rw [eBd_n z1, eBd_n z1, a1]
          refine ⟨rfl, fun s hs => ?_⟩
          rw [List.append_nil] at hs
          exact a2 s hs
        · rw [show wS 3 = 1 from rfl] at z2
          obtain ⟨b1, b2⟩ := (ih 6 d u (by omega) z3).1 rfl
          rw [eBd_u z1, eBd_u z1, a1, b1]
          refine ⟨rfl, fun s hs => ?_⟩
          rcases List.mem_append.mp hs with y | y
          · exact a2 s y
          · exact b2 s y
  · show evA L n B true 4 5 d p
    intro hd a ha
    rw [wE_UN hp] at ha
    rw [eE_UN hp]
    by_cases h1 : wCh n B (wSk n B p) = 33
    · have := wCh_lt (n := n) (B := B) (p := wSk n B p) (by omega)
      rw [if_pos h1] at ha ⊢
      by_cases h2 : 6 ≤ d
      · rw [if_pos h2] at ha
        exact (wFl_n ha).elim
      · rw [if_neg h2] at ha ⊢
        have e5 : evA L n B true 4 5 (d + 1) (wSk n B p + 1) := (ih 5 (d + 1) (wSk n B p + 1) (by omega) (by omega)).2
        obtain ⟨v, b, f⟩ := e5 (by omega) a ha
        have v01 := b.2.2 rfl
        refine ⟨1 - v, bdk_01 (by omega), fun c st hl => ?_⟩
        rw [eBd_u ha, List.append_assoc]
        exact Ex_t (f _ st (by omega)) (Ex_not v01)
    · rw [if_neg h1] at ha ⊢
      by_cases h4 : wCh n B (wSk n B p) = 40
      · have := wCh_lt (n := n) (B := B) (p := wSk n B p) (by omega)
        rw [if_pos h4] at ha ⊢
        by_cases h2 : 6 ≤ d
        · rw [if_pos h2] at ha
          exact (wFl_n ha).elim
        · rw [if_neg h2] at ha ⊢
          rcases wBd_cs (k := fun s => if wCh n B (wSk n B s) = 41 then (wSk n B s : Int) + 1 else wFl (wSk n B s)) (wG_gd (n := n) (B := B) 10 (d + 1) (wSk n B p + 1) rfl (by omega)) with ⟨z1, z2⟩ | ⟨u, z1, z2, z3, z4⟩
          · omega
          · have e3 : evA L n B true 6 10 (d + 1) (wSk n B p + 1) := (ih 10 (d + 1) (wSk n B p + 1) (by omega) (by omega)).2
            obtain ⟨v, b, f⟩ := e3 (by omega) u z1
            exact ⟨v, b, fun c st hl => f c st (by omega)⟩
      · rw [if_neg h4] at ha ⊢
        rcases wBd_cs (k := fun s => wG n B 6 d s) (wG_gd (n := n) (B := B) 3 d (wSk n B p) rfl s0.2) with ⟨z1, z2⟩ | ⟨u, z1, z2, z3, z4⟩
        · omega
        · rw [show wS 3 = 1 from rfl] at z2
          have e3 : evA L n B false 3 3 d (wSk n B p) := h3.2
          have e6 : evB L n B false true 4 6 d u := (ih 6 d u (by omega) z3).2
          obtain ⟨v1, b1, f1⟩ := e3 hd u z1
          obtain ⟨v2, b2, f2⟩ := e6 hd a (z4.symm.trans ha) v1 b1
          refine ⟨v2, b2, fun c st hl => ?_⟩
          rw [eBd_u z1, List.append_assoc]
          exact Ex_t (f1 _ st (by omega)) (f2 c st (by omega))
theorem ex_CM {d p : Nat} (hp : p ≤ n) (ih : ∀ X d p', p < p' → p' ≤ n → exP L n B X d p') : exP L n B 6 d p := by
  have s0 := wSk_le (B := B) hp
  by_cases hc : 60 ≤ wCh n B (wSk n B p) ∧ wCh n B (wSk n B p) ≤ 62
  · have := wCh_lt (n := n) (B := B) (p := wSk n B p) (by omega)
    have hsg : sgOk (wCh n B (wSk n B p)) := by
      unfold sgOk
      omega
    have e3 := ih 3 d (wSk n B p + 1) (by omega) (by omega)
    constructor
    · intro _
      obtain ⟨a1, a2⟩ := e3.1 rfl
      rw [eE_CM hp, eE_CM hp, if_pos hc, if_pos hc, a1]
      refine ⟨rfl, fun s hs => ?_⟩
      rcases List.mem_append.mp hs with y | y
      · exact a2 s y
      · unfold eBd at y
        split at y
        · cases y
        · rw [List.mem_singleton] at y
          rw [y]
          exact Or.inr (Or.inr (by rw [Int.neg_neg]; exact hsg))
    · show evB L n B false true 4 6 d p
      intro hd a ha x hx
      rw [wE_CM hp, if_pos hc] at ha
      rw [eE_CM hp, if_pos hc]
      have e3 : evA L n B false 3 3 d (wSk n B p + 1) := e3.2
      obtain ⟨v1, b1, f1⟩ := e3 hd a ha
      refine ⟨hld (rOp (wCh n B (wSk n B p)) x v1), bdk_01 (hld_b01 (rOp_01 (by omega))), fun c st hl => ?_⟩
      rw [eBd_u ha, List.append_assoc]
      exact Ex_t (f1 _ (x :: st) (by rw [List.length_cons]; omega)) (Ex_op hsg)
  · constructor
    · exact tk_end (fun c => (eE_CM hp).trans (if_neg hc))
    · show evB L n B false true 4 6 d p
      intro hd a ha
      rw [wE_CM hp, if_neg hc] at ha
      exact (wFl_n ha).elim
theorem ex_all (hL : ∀ j, j < 6 → -1000000 ≤ L j ∧ L j ≤ 1000000) : ∀ X d p, p ≤ n → exP L n B X d p := by
  refine eInd (B := B) ?_ ?_ ?_ ?_ ?_ ?_ ?_ ?_ ?_ ?_ ?_ ?_ ?_ ?_ ?_ ?_ ?_ ?_
  · exact fun d p hp ih => ex_AT hL hp ih
  · exact fun d p hp ih h => ⟨tk_seq (Y := 0) (Z := 2) rfl rfl rfl rfl hp h.1 (fun e e1 e2 => (ih 2 d e e1 e2).1) (fun c => eE_TM hp), evA_seq (w1 := 1) (w2 := 2) (Y := 0) (Z := 2) (o1 := false) (by decide) (by decide) rfl rfl hp h.2 (fun e e1 e2 => (ih 2 d e e1 e2).2) (wE_TM hp) (eE_TM hp)⟩
  · intro d p hp ih
    by_cases hc : wCh n B (wSk n B p) = 42 ∨ wCh n B (wSk n B p) = 47
    · have hq := wCh_lt (n := n) (B := B) (p := wSk n B p) (by omega)
      have s0 := wSk_le (B := B) hp
      have e1 := ih 0 d (wSk n B p + 1) (by omega) (by omega)
      have hsg : sgOk (wCh n B (wSk n B p)) := by unfold sgOk; omega
      exact ⟨tk_tail (Y := 0) (g := wCh n B (wSk n B p)) hsg rfl rfl rfl rfl hp hq e1.1 (fun e e1 e2 => (ih 2 d e e1 e2).1) (fun c => (eE_TT hp).trans (if_pos hc)), evB_tail (b := false) (w1 := 1) (w := 2) (Y := 0) (g := wCh n B (wSk n B p)) hsg hb_num (by decide) rfl rfl hp hq e1.2 (fun e e1 e2 => (ih 2 d e e1 e2).2) ((wE_TT hp).trans (if_pos hc)) ((eE_TT hp).trans (if_pos hc))⟩
    · exact ⟨tk_end (fun c => (eE_TT hp).trans (if_neg hc)), evB_end ((eE_TT hp).trans (if_neg hc))⟩
  · exact fun d p hp ih h => ⟨tk_seq (Y := 1) (Z := 4) rfl rfl rfl rfl hp h.1 (fun e e1 e2 => (ih 4 d e e1 e2).1) (fun c => eE_SU hp), evA_seq (w1 := 2) (w2 := 3) (Y := 1) (Z := 4) (o1 := false) (by decide) (by decide) rfl rfl hp h.2 (fun e e1 e2 => (ih 4 d e e1 e2).2) (wE_SU hp) (eE_SU hp)⟩
  · intro d p hp ih
    by_cases hc : wCh n B (wSk n B p) = 43 ∨ wCh n B (wSk n B p) = 45
    · have hq := wCh_lt (n := n) (B := B) (p := wSk n B p) (by omega)
      have s0 := wSk_le (B := B) hp
      have e1 := ih 1 d (wSk n B p + 1) (by omega) (by omega)
      have hsg : sgOk (wCh n B (wSk n B p)) := by unfold sgOk; omega
      exact ⟨tk_tail (Y := 1) (g := wCh n B (wSk n B p)) hsg rfl rfl rfl rfl hp hq e1.1 (fun e e1 e2 => (ih 4 d e e1 e2).1) (fun c => (eE_ST hp).trans (if_pos hc)), evB_tail (b := false) (w1 := 2) (w := 3) (Y := 1) (g := wCh n B (wSk n B p)) hsg hb_num (by decide) rfl rfl hp hq e1.2 (fun e e1 e2 => (ih 4 d e e1 e2).2) ((wE_ST hp).trans (if_pos hc)) ((eE_ST hp).trans (if_pos hc))⟩
    · exact ⟨tk_end (fun c => (eE_ST hp).trans (if_neg hc)), evB_end ((eE_ST hp).trans (if_neg hc))⟩
  · exact fun d p hp ih h => ex_UN hp ih h
  · exact fun d p hp ih => ex_CM hp ih
  · intro d p hp ih
    by_cases hc : wCh n B (wSk n B p) = 38
    · have hq := wCh_lt (n := n) (B := B) (p := wSk n B p) (by omega)
      have s0 := wSk_le (B := B) hp
      have e1 := ih 5 d (wSk n B p + 1) (by omega) (by omega)
      have hsg : sgOk (38) := by unfold sgOk; omega
      exact ⟨tk_tail (Y := 5) (g := 38) hsg rfl rfl rfl rfl hp hq e1.1 (fun e e1 e2 => (ih 7 d e e1 e2).1) (fun c => (eE_AN hp).trans (if_pos hc)), evB_tail (b := true) (w1 := 4) (w := 5) (Y := 5) (g := 38) hsg (hb_bool (by decide)) (by decide) rfl rfl hp hq e1.2 (fun e e1 e2 => (ih 7 d e e1 e2).2) ((wE_AN hp).trans (if_pos hc)) ((eE_AN hp).trans (if_pos hc))⟩
    · exact ⟨tk_end (fun c => (eE_AN hp).trans (if_neg hc)), evB_end ((eE_AN hp).trans (if_neg hc))⟩
  · exact fun d p hp ih h => ⟨tk_seq (Y := 5) (Z := 7) rfl rfl rfl rfl hp h.1 (fun e e1 e2 => (ih 7 d e e1 e2).1) (fun c => eE_TR hp), evA_seq (w1 := 4) (w2 := 5) (Y := 5) (Z := 7) (o1 := true) (by decide) (by decide) rfl rfl hp h.2 (fun e e1 e2 => (ih 7 d e e1 e2).2) (wE_TR hp) (eE_TR hp)⟩
  · intro d p hp ih
    by_cases hc : wCh n B (wSk n B p) = 124
    · have hq := wCh_lt (n := n) (B := B) (p := wSk n B p) (by omega)
      have s0 := wSk_le (B := B) hp
      have e1 := ih 8 d (wSk n B p + 1) (by omega) (by omega)
      have hsg : sgOk (124) := by unfold sgOk; omega
      exact ⟨tk_tail (Y := 8) (g := 124) hsg rfl rfl rfl rfl hp hq e1.1 (fun e e1 e2 => (ih 9 d e e1 e2).1) (fun c => (eE_OT hp).trans (if_pos hc)), evB_tail (b := true) (w1 := 5) (w := 6) (Y := 8) (g := 124) hsg (hb_bool (by decide)) (by decide) rfl rfl hp hq e1.2 (fun e e1 e2 => (ih 9 d e e1 e2).2) ((wE_OT hp).trans (if_pos hc)) ((eE_OT hp).trans (if_pos hc))⟩
    · exact ⟨tk_end (fun c => (eE_OT hp).trans (if_neg hc)), evB_end ((eE_OT hp).trans (if_neg hc))⟩
  · exact fun d p hp ih h => ⟨tk_seq (Y := 8) (Z := 9) rfl rfl rfl rfl hp h.1 (fun e e1 e2 => (ih 9 d e e1 e2).1) (fun c => eE_CO hp), evA_seq (w1 := 5) (w2 := 6) (Y := 8) (Z := 9) (o1 := true) (by decide) (by decide) rfl rfl hp h.2 (fun e e1 e2 => (ih 9 d e e1 e2).2) (wE_CO hp) (eE_CO hp)⟩
  · exact fun d p hp ih => ⟨fun z => (by cases z), trivial⟩
  · exact fun d p hp ih h => ⟨fun z => (by cases z), trivial⟩
  · exact fun d p hp ih h => ⟨tk_seq (Y := 6) (Z := 7) rfl rfl rfl rfl hp h.1 (fun e e1 e2 => (ih 7 d e e1 e2).1) (fun c => eE_TB hp), evB_seq (w1 := 4) (w2 := 5) (Y := 6) (Z := 7) (o1 := true) (by decide) (by decide) rfl rfl hp h.2 (fun e e1 e2 => (ih 7 d e e1 e2).2) (wE_TB hp) (eE_TB hp)⟩
  · exact fun d p hp ih h => ⟨tk_seq (Y := 15) (Z := 9) rfl rfl rfl rfl hp h.1 (fun e e1 e2 => (ih 9 d e e1 e2).1) (fun c => eE_CB hp), evB_seq (w1 := 5) (w2 := 6) (Y := 15) (Z := 9) (o1 := true) (by decide) (by decide) rfl rfl hp h.2 (fun e e1 e2 => (ih 9 d e e1 e2).2) (wE_CB hp) (eE_CB hp)⟩
  · exact fun d p hp ih h h2 => ⟨fun z => (by cases z), trivial⟩
  · exact fun d p hp ih => ⟨fun z => (by cases z), trivial⟩
  · intro X d p hX
    refine ⟨fun z => ?_, ?_⟩
    · unfold xE at z
      rw [Bool.or_eq_true, decide_eq_true_eq, decide_eq_true_eq] at z
      omega
    · unfold evP
      split <;> first | omega | trivial
end EXO
