/-! a law's clauses: the class's code and the reference's tables are worth the same -/
section LAWX
variable (n : Nat) (B : Nat → Int)
noncomputable def lCo (k : Nat) : Bool := decide (wCh n B (wSk n B (lP1 n B k)) = 33 ∨ wCh n B (wSk n B (lP1 n B k)) = 40)
noncomputable def lCp (k : Nat) : Bool := decide (60 ≤ wCh n B (lS1 n B k) ∧ wCh n B (lS1 n B k) ≤ 62)
noncomputable def clE (k : Nat) : Nat := if lCo n B k = true then (wG n B 10 0 (wSk n B (lP1 n B k))).toNat else (wG n B 16 0 (lS1 n B k)).toNat
noncomputable def clTk (k : Nat) : List Int := if lCo n B k = true then eG false n B 10 0 (wSk n B (lP1 n B k)) else if lCp n B k = true then eG false n B 3 0 (wSk n B (lP1 n B k)) ++ eG false n B 16 0 (lS1 n B k) else []
noncomputable def clSk (k : Nat) : List Int := if lCo n B k = true ∨ lCp n B k = true then eG false n B 3 0 (wSk n B (clE n B k) + 1) else eG false n B 3 0 (wSk n B (lP1 n B k))
noncomputable def clL : Nat → Nat → List (List Int × List Int)
  | _, 0 => []
  | k, N + 1 => (clTk n B k, clSk n B k) :: clL (k + 1) N
end LAWX
section LAWO
variable {L : Nat → Int} {n : Nat} {B : Nat → Int}
theorem clL_len : ∀ (N k : Nat), (clL n B k N).length = N
  | 0, _ => rfl
  | N + 1, k => by
    show (clL n B (k + 1) N).length + 1 = _
    rw [clL_len N (k + 1)]
/-- a value's tokens -/
noncomputable def vTk (L : Nat → Int) (o : Bool) (l : List Int) : Prop := (∀ s ∈ l, tkE s) ∧ ∃ v, bdk o v ∧ ∀ c st : List Int, st.length + 20 ≤ 64 → Ex L (l ++ c) st c (v :: st)
theorem vTk_of {o : Bool} {w X p : Nat} {a : Nat} (h1 : tkP n B X 0 p) (hX : xE X = true) (h2 : evA L n B o w X 0 p) (hw : w ≤ 8) (ha : wG n B X 0 p = (a : Int)) : vTk L o (eG false n B X 0 p) := by
  obtain ⟨v, b, f⟩ := h2 (by omega) a ha
  exact ⟨(h1 hX).2, v, b, fun c st hl => f c st (by omega)⟩
/-- what a well clause is made of -/
theorem cl_parts (hL : ∀ j, j < 6 → -1000000 ≤ L j ∧ L j ≤ 1000000) {k : Nat} (hc : lCl n B k) : vTk L false (clSk n B k) ∧ (if lCo n B k = true ∨ lCp n B k = true then vTk L true (clTk n B k) ∧ eG true n B 11 0 (lPos n B k) = clTk n B k ++ (-63 :: clSk n B k) else clTk n B k = [] ∧ eG true n B 11 0 (lPos n B k) = clSk n B k) ∧ eG false n B 11 0 (lPos n B k) = clTk n B k ++ clSk n B k := by
  have hx := ex_all (n := n) (B := B) hL
  have h2 := hc.2
  obtain ⟨y1, y2, y3, y4, y5, y6⟩ := lCl_1 hc
  have e11 : ∀ c, eG c n B 11 0 (lPos n B k) = eG c n B 17 0 (lP1 n B k) := fun c => by
    rw [eE_CL hc.1, if_pos y1, if_pos y2]
    rfl
  have sq := wSk_le (B := B) y5
  rw [y3, wE_C1 y5] at h2
  rw [e11, e11, eE_C1 y5, eE_C1 y5]
  unfold clSk clTk clE
  by_cases h1 : wCh n B (wSk n B (lP1 n B k)) = 33 ∨ wCh n B (wSk n B (lP1 n B k)) = 40
  · have hco : lCo n B k = true := decide_eq_true h1
    rw [if_pos (Or.inl hco), if_pos hco, if_pos hco, if_pos (Or.inl hco), if_pos h1, if_pos h1]
    rw [if_pos h1] at h2
    rcases wBd_cs (k := fun a => wG n B 18 0 a) (wG_gd (n := n) (B := B) 10 0 (wSk n B (lP1 n B k)) rfl sq.2) with ⟨z1, z2⟩ | ⟨u, z1, z2, z3, z4⟩
    · omega
    · rw [z4, wE_C2 z3] at h2
      have su := wSk_le (B := B) z3
      have hx10 := hx 10 0 (wSk n B (lP1 n B k)) sq.2
      rw [eBd_u z1, eBd_u z1, eE_C2 z3, eE_C2 z3, (hx10.1 rfl).1]
      rw [show (wG n B 10 0 (wSk n B (lP1 n B k))).toNat = u by omega]
      by_cases h4 : wCh n B (wSk n B u) = 63
      · have := wCh_lt (n := n) (B := B) (p := wSk n B u) (by omega)
        rw [if_pos h4] at h2
        rw [if_pos h4, if_pos h4, if_pos rfl, if_neg (by decide)]
        obtain ⟨r, hr⟩ : ∃ r : Nat, wG n B 3 0 (wSk n B u + 1) = (r : Int) := ⟨(wG n B 3 0 (wSk n B u + 1)).toNat, by omega⟩
        have hx3 := hx 3 0 (wSk n B u + 1) (by omega)
        rw [(hx3.1 rfl).1]
        exact ⟨vTk_of hx3.1 rfl hx3.2 (by decide) hr, ⟨vTk_of hx10.1 rfl hx10.2 (by decide) z1, rfl⟩, rfl⟩
      · rw [if_neg h4] at h2
        unfold wFl at h2
        omega
  · have hco : lCo n B k = false := decide_eq_false h1
    rw [if_neg h1] at h2
    rw [if_neg h1, if_neg h1, hco, if_neg (show ¬ false = true by decide), if_neg (show ¬ false = true by decide)]
    rcases wBd_cs (k := fun s => if 60 ≤ wCh n B (wSk n B s) ∧ wCh n B (wSk n B s) ≤ 62 then wBd (wG n B 16 0 (wSk n B s)) (fun b => wG n B 18 0 b) else (wSk n B s : Int)) (wG_gd (n := n) (B := B) 3 0 (wSk n B (lP1 n B k)) rfl sq.2) with ⟨z1, z2⟩ | ⟨u, z1, z2, z3, z4⟩
    · omega
    · rw [z4] at h2
      have su := wSk_le (B := B) z3
      have es : lS1 n B k = wSk n B u := by
        unfold lS1
        rw [z1]
        rfl
      have hx3 := hx 3 0 (wSk n B (lP1 n B k)) sq.2
      rw [eBd_u z1, eBd_u z1, (hx3.1 rfl).1]
      by_cases h4 : 60 ≤ wCh n B (wSk n B u) ∧ wCh n B (wSk n B u) ≤ 62
      · have hcp : lCp n B k = true := decide_eq_true (by rw [es]; exact h4)
        rw [if_pos h4] at h2
        rw [if_pos h4, if_pos h4, hcp, if_pos (Or.inr rfl), if_pos rfl, if_pos (Or.inr rfl), es]
        rcases wBd_cs (k := fun b => wG n B 18 0 b) (wG_gd (n := n) (B := B) 16 0 (wSk n B u) rfl su.2) with ⟨x1, x2⟩ | ⟨v, x1, x2, x3, x4⟩
        · omega
        · rw [x4, wE_C2 x3] at h2
          have sv_ := wSk_le (B := B) x3
          have hx16 := hx 16 0 (wSk n B u) su.2
          rw [eBd_u x1, eBd_u x1, eE_C2 x3, eE_C2 x3, (hx16.1 rfl).1]
          rw [show (wG n B 16 0 (wSk n B u)).toNat = v by omega]
          by_cases h5 : wCh n B (wSk n B v) = 63
          · have := wCh_lt (n := n) (B := B) (p := wSk n B v) (by omega)
            rw [if_pos h5] at h2
            rw [if_pos h5, if_pos h5, if_pos rfl, if_neg (by decide)]
            obtain ⟨r, hr⟩ : ∃ r : Nat, wG n B 3 0 (wSk n B v + 1) = (r : Int) := ⟨(wG n B 3 0 (wSk n B v + 1)).toNat, by omega⟩
            have hx3v := hx 3 0 (wSk n B v + 1) (by omega)
            rw [(hx3v.1 rfl).1]
            refine ⟨vTk_of hx3v.1 rfl hx3v.2 (by decide) hr, ⟨⟨fun s hs => ?_, ?_⟩, ?_⟩, ?_⟩
            · rcases List.mem_append.mp hs with y | y
              · exact (hx3.1 rfl).2 s y
              · exact (hx16.1 rfl).2 s y
            · have e3 : evA L n B false 3 3 0 (wSk n B (lP1 n B k)) := hx3.2
              have e16 : evB L n B false true 6 16 0 (wSk n B u) := hx16.2
              obtain ⟨w1, b1, f1⟩ := e3 (by omega) u z1
              obtain ⟨w2, b2, f2⟩ := e16 (by omega) v x1 w1 b1
              refine ⟨w2, b2, fun c st hl => ?_⟩
              rw [List.append_assoc]
              exact Ex_t (f1 _ st (by omega)) (f2 c st (by omega))
            · rw [List.append_assoc]
              rfl
            · rw [List.append_assoc]
              rfl
          · rw [if_neg h5] at h2
            unfold wFl at h2
            omega
      · have hcp : lCp n B k = false := decide_eq_false (by rw [es]; exact h4)
        rw [if_neg h4, if_neg h4, hcp, if_neg (show ¬ (false = true ∨ false = true) by decide), if_neg (show ¬ false = true by decide), if_neg (show ¬ (false = true ∨ false = true) by decide), List.append_nil]
        exact ⟨vTk_of hx3.1 rfl hx3.2 (by decide) z1, ⟨rfl, rfl⟩, rfl⟩
theorem tkE_59 {s : Int} (h : tkE s) : s ≠ -59 := by
  rcases h with y | y | y
  · omega
  · omega
  · have := sgOk_n y
    omega
theorem cMa_skip {rest st : List Int} : ∀ {l : List Int}, (∀ s ∈ l, s ≠ -59) → cMa L (l ++ (-59 :: rest)) true st = cMa L rest false st
  | [], _ => rfl
  | s :: l, h => by
    show cMa L (l ++ (-59 :: rest)) (decide (s ≠ -59)) st = _
    rw [decide_eq_true (h s (List.mem_cons_self ..))]
    exact cMa_skip (fun x hx => h x (List.mem_cons_of_mem _ hx))
theorem cMa_59 {v : Int} {c : List Int} : cMa L (-59 :: c) false [v] = v := by
  show (if (0 : Int) ≤ -59 then _ else if (-59 : Int) = -59 then v else _) = v
  rw [if_neg (by decide), if_pos rfl]
theorem cMa_63 {v : Int} {c : List Int} : cMa L (-63 :: c) false [v] = cMa L c (decide (v = 0)) [] := by
  show (if (0 : Int) ≤ -63 then _ else if (-63 : Int) = -59 then v else if (-63 : Int) = -63 then cMa L c (decide (v = 0)) [] else _) = _
  rw [if_neg (by decide), if_neg (by decide), if_pos rfl]
theorem vTk_bt {o : Bool} {l : List Int} (h : vTk L o l) : ∃ v, bdk o v ∧ wEx L l [] = [v] ∧ bt L l = v ∧ ∀ c, cMa L (l ++ c) false [] = cMa L c false [v] := by
  obtain ⟨_, v, b, f⟩ := h
  have e : wEx L l [] = [v] := by
    have := (f [] [] (by decide)).2
    rw [List.append_nil] at this
    exact this
  exact ⟨v, b, e, bt_e e, fun c => (f c [] (by show 0 + 20 ≤ 64; decide)).1⟩
theorem cl_ok (hL : ∀ j, j < 6 → -1000000 ≤ L j ∧ L j ≤ 1000000) {k : Nat} (hc : lCl n B k) : cOk L (clTk n B k, clSk n B k) := by
  obtain ⟨p1, p2, p3⟩ := cl_parts hL hc
  obtain ⟨v2, -, e2, -, -⟩ := vTk_bt p1
  by_cases h : lCo n B k = true ∨ lCp n B k = true
  · rw [if_pos h] at p2
    obtain ⟨v1, -, e1, -, -⟩ := vTk_bt p2.1
    exact ⟨p2.1.1, p1.1, Or.inr ⟨v1, e1⟩, v2, e2⟩
  · rw [if_neg h] at p2
    exact ⟨fun s hs => (by rw [p2.1] at hs; cases hs), p1.1, Or.inl p2.1, v2, e2⟩
theorem cl_run (hL : ∀ j, j < 6 → -1000000 ≤ L j ∧ L j ≤ 1000000) {k : Nat} (hc : lCl n B k) (rest : List Int) : cMa L (eG true n B 11 0 (lPos n B k) ++ (-59 :: rest)) false [] = if clTk n B k = [] ∨ bt L (clTk n B k) ≠ 0 then bt L (clSk n B k) else cMa L rest false [] := by
  obtain ⟨p1, p2, p3⟩ := cl_parts hL hc
  obtain ⟨v2, b2, e2, t2, f2⟩ := vTk_bt p1
  by_cases h : lCo n B k = true ∨ lCp n B k = true
  · rw [if_pos h] at p2
    obtain ⟨v1, b1, e1, t1, f1⟩ := vTk_bt p2.1
    rw [p2.2, List.append_assoc, f1, List.cons_append, cMa_63, t1, t2]
    have hne : clTk n B k ≠ [] := fun e => by
      rw [e] at e1
      cases e1
    by_cases hv : v1 = 0
    · rw [decide_eq_true hv, if_neg (fun z => z.elim hne (fun y => y hv))]
      exact cMa_skip (fun s hs => tkE_59 (p1.1 s hs))
    · rw [decide_eq_false hv, if_pos (Or.inr hv), f2, cMa_59]
  · rw [if_neg h] at p2
    rw [p2.2, f2, cMa_59, if_pos (Or.inl p2.1), t2]
/-- the law from clause k on -/
theorem law_run {k : Nat} (hk : lOk n B k) (hw : 0 ≤ wG n B 12 0 (lPos n B k)) : ∃ N, (∀ j, j < N → lOk n B (k + j) ∧ lCl n B (k + j)) ∧ 1 ≤ N ∧ wCh n B (wSk n B (wG n B 11 0 (lPos n B (k + (N - 1)))).toNat) = 0 ∧ (∀ L : Nat → Int, (∀ j, j < 6 → -1000000 ≤ L j ∧ L j ≤ 1000000) → cMa L (eG true n B 12 0 (lPos n B k)) false [] = mMa L (clL n B k N)) ∧ (∀ s ∈ eG true n B 12 0 (lPos n B k), tkC s) ∧ ∀ z ∈ clL n B k N, ∀ L : Nat → Int, (∀ j, j < 6 → -1000000 ≤ L j ∧ L j ≤ 1000000) → cOk L z := by
  have key : ∀ m k, n - lPos n B k ≤ m → lOk n B k → 0 ≤ wG n B 12 0 (lPos n B k) → ∃ N, (∀ j, j < N → lOk n B (k + j) ∧ lCl n B (k + j)) ∧ 1 ≤ N ∧ wCh n B (wSk n B (wG n B 11 0 (lPos n B (k + (N - 1)))).toNat) = 0 ∧ (∀ L : Nat → Int, (∀ j, j < 6 → -1000000 ≤ L j ∧ L j ≤ 1000000) → cMa L (eG true n B 12 0 (lPos n B k)) false [] = mMa L (clL n B k N)) ∧ (∀ s ∈ eG true n B 12 0 (lPos n B k), tkC s) ∧ ∀ z ∈ clL n B k N, ∀ L : Nat → Int, (∀ j, j < 6 → -1000000 ≤ L j ∧ L j ≤ 1000000) → cOk L z := by
    intro m
    induction m with
    | zero =>
      intro k h1 h2 h3
      have hp := lPos_b h2
      exfalso
      rw [wE_LT hp] at h3
      rcases wBd_cs (k := fun a => if wCh n B (wSk n B a) = 59 then wG n B 12 0 (wSk n B a + 1) else if wCh n B (wSk n B a) = 0 then (wSk n B a : Int) else wFl (wSk n B a)) (wG_gd (n := n) (B := B) 11 0 (lPos n B k) rfl hp) with ⟨z1, z2⟩ | ⟨u, z1, z2, z3, z4⟩
      · omega
      · rw [show wS 11 = 1 from rfl] at z2
        omega
    | succ m ih =>
      intro k h1 h2 h3
      have hp := lPos_b h2
      rw [wE_LT hp] at h3
      rcases wBd_cs (k := fun a => if wCh n B (wSk n B a) = 59 then wG n B 12 0 (wSk n B a + 1) else if wCh n B (wSk n B a) = 0 then (wSk n B a : Int) else wFl (wSk n B a)) (wG_gd (n := n) (B := B) 11 0 (lPos n B k) rfl hp) with ⟨z1, z2⟩ | ⟨u, z1, z2, z3, z4⟩
      · omega
      · rw [z4] at h3
        have lc : lCl n B k := ⟨hp, by omega⟩
        have tu : (wG n B 11 0 (lPos n B k)).toNat = u := by omega
        have ee : eG true n B 12 0 (lPos n B k) = eG true n B 11 0 (lPos n B k) ++ (-59 :: (if wCh n B (wSk n B u) = 59 then eG true n B 12 0 (wSk n B u + 1) else [])) := by
          rw [eE_LT hp, eBd_u z1, if_pos rfl]
          rfl
        have tc : ∀ s ∈ eG true n B 11 0 (lPos n B k), tkC s := fun s hs => by
          obtain ⟨p1, p2, p3⟩ := cl_parts (L := fun _ => 0) (n := n) (B := B) (fun _ _ => by decide) lc
          by_cases h : lCo n B k = true ∨ lCp n B k = true
          · rw [if_pos h] at p2
            rw [p2.2] at hs
            rcases List.mem_append.mp hs with y | y
            · exact Or.inl (p2.1.1 s y)
            · rcases List.mem_cons.mp y with y | y
              · exact Or.inr (Or.inr y)
              · exact Or.inl (p1.1 s y)
          · rw [if_neg h] at p2
            rw [p2.2] at hs
            exact Or.inl (p1.1 s hs)
        by_cases h59 : wCh n B (wSk n B u) = 59
        · have l := wCh_lt (n := n) (B := B) (p := wSk n B u) (by omega)
          have su := wSk_le (n := n) (B := B) (p := u) z3
          rw [if_pos h59] at h3 ee
          have ok2 : lOk n B (k + 1) := fun j hj => by
            rcases Nat.lt_or_ge j k with y | y
            · exact h2 j y
            · rw [show j = k by omega]
              exact ⟨lc, by rw [tu]; exact h59⟩
          have pk2 : lPos n B (k + 1) = wSk n B u + 1 := by
            show wSk n B (wG n B 11 0 (lPos n B k)).toNat + 1 = _
            rw [tu]
          rw [← pk2] at h3 ee
          obtain ⟨N, n1, n2, n3, n4, n5, n6⟩ := ih (k + 1) (by rw [pk2]; rw [show wS 11 = 1 from rfl] at z2; omega) ok2 h3
          refine ⟨N + 1, fun j hj => ?_, by omega, ?_, fun L hL => ?_, fun s hs => ?_, fun z hz => ?_⟩
          · cases j with
            | zero => exact ⟨h2, lc⟩
            | succ j =>
              have := n1 j (by omega)
              rw [show k + (j + 1) = k + 1 + j by omega]
              exact this
          · rw [show k + (N + 1 - 1) = k + 1 + (N - 1) by omega]
            exact n3
          · rw [ee, cl_run hL lc, n4 L hL]
            rfl
          · rw [ee] at hs
            rcases List.mem_append.mp hs with y | y
            · exact tc s y
            · rcases List.mem_cons.mp y with y | y
              · exact Or.inr (Or.inl y)
              · exact n5 s y
          · rcases List.mem_cons.mp hz with y | y
            · intro L hL
              rw [y]
              exact cl_ok hL lc
            · exact n6 z y
        · rw [if_neg h59] at h3 ee
          by_cases h0 : wCh n B (wSk n B u) = 0
          · refine ⟨1, fun j hj => ?_, Nat.le_refl 1, ?_, fun L hL => ?_, fun s hs => ?_, fun z hz => ?_⟩
            · rw [show k + j = k by omega]
              exact ⟨h2, lc⟩
            · rw [show k + (1 - 1) = k by omega, tu]
              exact h0
            · rw [ee, cl_run hL lc]
              rfl
            · rw [ee] at hs
              rcases List.mem_append.mp hs with y | y
              · exact tc s y
              · rw [List.mem_singleton] at y
                exact Or.inr (Or.inl y)
            · intro L hL
              rw [show clL n B k 1 = [(clTk n B k, clSk n B k)] from rfl, List.mem_singleton] at hz
              rw [hz]
              exact cl_ok hL lc
          · rw [if_neg h0] at h3
            unfold wFl at h3
            omega
  exact key _ k (Nat.le_refl _) hk hw
/-- the reference's tables of the clauses -/
theorem cl_len {k : Nat} (hc : lCl n B k) : lSf n B k = lOff n B k + (clTk n B k).length ∧ lSe n B k = lOff n B k + (clTk n B k).length + (clSk n B k).length := by
  obtain ⟨p1, p2, p3⟩ := cl_parts (L := fun _ => 0) (n := n) (B := B) (fun _ _ => by decide) hc
  constructor
  · unfold lSf clTk lO2
    by_cases h1 : wCh n B (wSk n B (lP1 n B k)) = 33 ∨ wCh n B (wSk n B (lP1 n B k)) = 40
    · rw [if_pos (Or.inl h1), if_pos h1, if_pos (show lCo n B k = true from decide_eq_true h1)]
    · have hco : lCo n B k = false := decide_eq_false h1
      rw [if_neg h1, hco, if_neg (show ¬ false = true by decide)]
      by_cases h2 : 60 ≤ wCh n B (lS1 n B k) ∧ wCh n B (lS1 n B k) ≤ 62
      · rw [if_pos (Or.inr h2), if_pos (show lCp n B k = true from decide_eq_true h2), List.length_append]
      · rw [if_neg (fun z => z.elim h1 h2), show lCp n B k = false from decide_eq_false h2, if_neg (show ¬ false = true by decide)]
        rfl
  · unfold lSe
    rw [p3, List.length_append]
    omega
theorem clAt_of {h : zH} {t : Nat} : ∀ (N k : Nat), (∀ j, j < N → lOk n B (k + j) ∧ lCl n B (k + j)) → (∀ j, k ≤ j → j < k + N → (h.1 412 (140 * t + j)).toInt = (lOff n B j : Int) ∧ (h.1 413 (140 * t + j)).toInt = (lSf n B j : Int) ∧ (h.1 414 (140 * t + j)).toInt = (lSe n B j : Int)) → n ≤ 240 → (∀ j, k ≤ j → j < k + N → mAt h (520 * t + lOff n B j) (eG false n B 11 0 (lPos n B j))) → clAt h t k (clL n B k N)
  | 0, _, _, _, _, _ => trivial
  | N + 1, k, hok, ht, hn, hm => by
    have h0 := hok 0 (by omega)
    have lc : lCl n B k := h0.2
    obtain ⟨q1, q2⟩ := cl_len lc
    obtain ⟨t1, t2, t3⟩ := ht k (Nat.le_refl k) (by omega)
    obtain ⟨p1, p2, p3⟩ := cl_parts (L := fun _ => 0) (n := n) (B := B) (fun _ _ => by decide) lc
    have hmk := hm k (Nat.le_refl k) (by omega)
    rw [p3] at hmk
    have hse : lSe n B k ≤ n := by
      have hl := lc.2
      obtain ⟨r, hr⟩ : ∃ r : Nat, wG n B 11 0 (lPos n B k) = (r : Int) := ⟨(wG n B 11 0 (lPos n B k)).toNat, by omega⟩
      have g := (wG_gd (n := n) (B := B) 11 0 (lPos n B k) rfl lc.1).2 hl
      have lk : lOk n B k := h0.1
      have := lSe_b lk hr
      omega
    refine ⟨⟨lOff n B k, t1, by rw [t2, q1], by rw [t3, q2], by omega, fun j v hj => ?_, fun j v hj => ?_⟩, clAt_of N (k + 1) (fun j hj => ?_) (fun j h1 h2 => ht j (by omega) (by omega)) hn (fun j h1 h2 => hm j (by omega) (by omega))⟩
    · exact hmk j v (by rw [List.getElem?_append_left (List.getElem?_eq_some_iff.mp hj).1]; exact hj)
    · have := hmk ((clTk n B k).length + j) v (by rw [List.getElem?_append_right (by omega), Nat.add_sub_cancel_left]; exact hj)
      rw [show 520 * t + (lOff n B k + (clTk n B k).length) + j = 520 * t + lOff n B k + ((clTk n B k).length + j) by omega]
      exact this
    · have := hok (j + 1) (by omega)
      rw [show k + 1 + j = k + (j + 1) by omega]
      exact this
end LAWO
