/-! the instructions are those of the code -/
noncomputable def yisN : Instr → Bool
  | .new _ => true
  | _ => false
noncomputable def ydec (cc : ByteArray) (nl pc : Nat) (i : Instr) : Bool := yisN i || zok nl i && (match decode cc pc with
  | .ok (j, n) => decide (j = i) && (zSwi i || decide (n = zlen i))
  | .error _ => false)
noncomputable def ydecM (m : Nat) : Bool := (yIm m).all (fun c => c.2.all (fun p => ydec (yMC m) (yMl m) p.1 p.2))
set_option maxRecDepth 20000 in
theorem ydec0 : ∀ m, 0 ≤ m → m < 21 → ydecM m = true := fun m h1 h2 => by
  have := yAll (f := fun k => ydecM (k + 0)) (n := 21) (by decide +kernel) (show m - 0 < 21 by omega)
  rw [Nat.sub_add_cancel h1] at this
  exact this
set_option maxRecDepth 20000 in
theorem ydec1 : ∀ m, 21 ≤ m → m < 39 → ydecM m = true := fun m h1 h2 => by
  have := yAll (f := fun k => ydecM (k + 21)) (n := 18) (by decide +kernel) (show m - 21 < 18 by omega)
  rw [Nat.sub_add_cancel h1] at this
  exact this
set_option maxRecDepth 20000 in
theorem ydec2 : ∀ m, 39 ≤ m → m < 49 → ydecM m = true := fun m h1 h2 => by
  have := yAll (f := fun k => ydecM (k + 39)) (n := 10) (by decide +kernel) (show m - 39 < 10 by omega)
  rw [Nat.sub_add_cancel h1] at this
  exact this
set_option maxRecDepth 20000 in
theorem ydec3 : ∀ m, 49 ≤ m → m < 63 → ydecM m = true := fun m h1 h2 => by
  have := yAll (f := fun k => ydecM (k + 49)) (n := 14) (by decide +kernel) (show m - 49 < 14 by omega)
  rw [Nat.sub_add_cancel h1] at this
  exact this
set_option maxRecDepth 20000 in
theorem ydec4 : ∀ m, 63 ≤ m → m < 71 → ydecM m = true := fun m h1 h2 => by
  have := yAll (f := fun k => ydecM (k + 63)) (n := 8) (by decide +kernel) (show m - 63 < 8 by omega)
  rw [Nat.sub_add_cancel h1] at this
  exact this
set_option maxRecDepth 20000 in
theorem ydec5 : ∀ m, 71 ≤ m → m < 79 → ydecM m = true := fun m h1 h2 => by
  have := yAll (f := fun k => ydecM (k + 71)) (n := 8) (by decide +kernel) (show m - 71 < 8 by omega)
  rw [Nat.sub_add_cancel h1] at this
  exact this
set_option maxRecDepth 20000 in
theorem ydec6 : ∀ m, 79 ≤ m → m < 92 → ydecM m = true := fun m h1 h2 => by
  have := yAll (f := fun k => ydecM (k + 79)) (n := 13) (by decide +kernel) (show m - 79 < 13 by omega)
  rw [Nat.sub_add_cancel h1] at this
  exact this
set_option maxRecDepth 20000 in
theorem ydec7 : ∀ m, 92 ≤ m → m < 104 → ydecM m = true := fun m h1 h2 => by
  have := yAll (f := fun k => ydecM (k + 92)) (n := 12) (by decide +kernel) (show m - 92 < 12 by omega)
  rw [Nat.sub_add_cancel h1] at this
  exact this
set_option maxRecDepth 20000 in
theorem ydec8 : ∀ m, 104 ≤ m → m < 112 → ydecM m = true := fun m h1 h2 => by
  have := yAll (f := fun k => ydecM (k + 104)) (n := 8) (by decide +kernel) (show m - 104 < 8 by omega)
  rw [Nat.sub_add_cancel h1] at this
  exact this
set_option maxRecDepth 20000 in
theorem ydec9 : ∀ m, 112 ≤ m → m < 121 → ydecM m = true := fun m h1 h2 => by
  have := yAll (f := fun k => ydecM (k + 112)) (n := 9) (by decide +kernel) (show m - 112 < 9 by omega)
  rw [Nat.sub_add_cancel h1] at this
  exact this
set_option maxRecDepth 20000 in
theorem ydec10 : ∀ m, 121 ≤ m → m < 132 → ydecM m = true := fun m h1 h2 => by
  have := yAll (f := fun k => ydecM (k + 121)) (n := 11) (by decide +kernel) (show m - 121 < 11 by omega)
  rw [Nat.sub_add_cancel h1] at this
  exact this
set_option maxRecDepth 20000 in
theorem ydec11 : ∀ m, 132 ≤ m → m < 146 → ydecM m = true := fun m h1 h2 => by
  have := yAll (f := fun k => ydecM (k + 132)) (n := 14) (by decide +kernel) (show m - 132 < 14 by omega)
  rw [Nat.sub_add_cancel h1] at this
  exact this
set_option maxRecDepth 20000 in
theorem ydec12 : ∀ m, 146 ≤ m → m < 151 → ydecM m = true := fun m h1 h2 => by
  have := yAll (f := fun k => ydecM (k + 146)) (n := 5) (by decide +kernel) (show m - 146 < 5 by omega)
  rw [Nat.sub_add_cancel h1] at this
  exact this
set_option maxRecDepth 20000 in
theorem ydec13 : ∀ m, 151 ≤ m → m < 156 → ydecM m = true := fun m h1 h2 => by
  have := yAll (f := fun k => ydecM (k + 151)) (n := 5) (by decide +kernel) (show m - 151 < 5 by omega)
  rw [Nat.sub_add_cancel h1] at this
  exact this
set_option maxRecDepth 20000 in
theorem ydec14 : ∀ m, 156 ≤ m → m < 166 → ydecM m = true := fun m h1 h2 => by
  have := yAll (f := fun k => ydecM (k + 156)) (n := 10) (by decide +kernel) (show m - 156 < 10 by omega)
  rw [Nat.sub_add_cancel h1] at this
  exact this
set_option maxRecDepth 20000 in
theorem ydec15 : ∀ m, 166 ≤ m → m < 174 → ydecM m = true := fun m h1 h2 => by
  have := yAll (f := fun k => ydecM (k + 166)) (n := 8) (by decide +kernel) (show m - 166 < 8 by omega)
  rw [Nat.sub_add_cancel h1] at this
  exact this
set_option maxRecDepth 20000 in
theorem ydec16 : ∀ m, 174 ≤ m → m < 182 → ydecM m = true := fun m h1 h2 => by
  have := yAll (f := fun k => ydecM (k + 174)) (n := 8) (by decide +kernel) (show m - 174 < 8 by omega)
  rw [Nat.sub_add_cancel h1] at this
  exact this
set_option maxRecDepth 20000 in
theorem ydec17 : ∀ m, 182 ≤ m → m < 193 → ydecM m = true := fun m h1 h2 => by
  have := yAll (f := fun k => ydecM (k + 182)) (n := 11) (by decide +kernel) (show m - 182 < 11 by omega)
  rw [Nat.sub_add_cancel h1] at this
  exact this
set_option maxRecDepth 20000 in
theorem ydec18 : ∀ m, 193 ≤ m → m < 200 → ydecM m = true := fun m h1 h2 => by
  have := yAll (f := fun k => ydecM (k + 193)) (n := 7) (by decide +kernel) (show m - 193 < 7 by omega)
  rw [Nat.sub_add_cancel h1] at this
  exact this
set_option maxRecDepth 20000 in
theorem ydec19 : ∀ m, 200 ≤ m → m < 208 → ydecM m = true := fun m h1 h2 => by
  have := yAll (f := fun k => ydecM (k + 200)) (n := 8) (by decide +kernel) (show m - 200 < 8 by omega)
  rw [Nat.sub_add_cancel h1] at this
  exact this
set_option maxRecDepth 20000 in
theorem ydec20 : ∀ m, 208 ≤ m → m < 216 → ydecM m = true := fun m h1 h2 => by
  have := yAll (f := fun k => ydecM (k + 208)) (n := 8) (by decide +kernel) (show m - 208 < 8 by omega)
  rw [Nat.sub_add_cancel h1] at this
  exact this
set_option maxRecDepth 20000 in
theorem ydec21 : ∀ m, 216 ≤ m → m < 222 → ydecM m = true := fun m h1 h2 => by
  have := yAll (f := fun k => ydecM (k + 216)) (n := 6) (by decide +kernel) (show m - 216 < 6 by omega)
  rw [Nat.sub_add_cancel h1] at this
  exact this
set_option maxRecDepth 20000 in
theorem ydec22 : ∀ m, 222 ≤ m → m < 230 → ydecM m = true := fun m h1 h2 => by
  have := yAll (f := fun k => ydecM (k + 222)) (n := 8) (by decide +kernel) (show m - 222 < 8 by omega)
  rw [Nat.sub_add_cancel h1] at this
  exact this
set_option maxRecDepth 20000 in
theorem ydec23 : ∀ m, 230 ≤ m → m < 237 → ydecM m = true := fun m h1 h2 => by
  have := yAll (f := fun k => ydecM (k + 230)) (n := 7) (by decide +kernel) (show m - 230 < 7 by omega)
  rw [Nat.sub_add_cancel h1] at this
  exact this
set_option maxRecDepth 20000 in
theorem ydec24 : ∀ m, 237 ≤ m → m < 241 → ydecM m = true := fun m h1 h2 => by
  have := yAll (f := fun k => ydecM (k + 237)) (n := 4) (by decide +kernel) (show m - 237 < 4 by omega)
  rw [Nat.sub_add_cancel h1] at this
  exact this
set_option maxRecDepth 20000 in
theorem ydec25 : ∀ m, 241 ≤ m → m < 250 → ydecM m = true := fun m h1 h2 => by
  have := yAll (f := fun k => ydecM (k + 241)) (n := 9) (by decide +kernel) (show m - 241 < 9 by omega)
  rw [Nat.sub_add_cancel h1] at this
  exact this
set_option maxRecDepth 20000 in
theorem ydec26 : ∀ m, 250 ≤ m → m < 258 → ydecM m = true := fun m h1 h2 => by
  have := yAll (f := fun k => ydecM (k + 250)) (n := 8) (by decide +kernel) (show m - 250 < 8 by omega)
  rw [Nat.sub_add_cancel h1] at this
  exact this
set_option maxRecDepth 20000 in
theorem ydec27 : ∀ m, 258 ≤ m → m < 261 → ydecM m = true := fun m h1 h2 => by
  have := yAll (f := fun k => ydecM (k + 258)) (n := 3) (by decide +kernel) (show m - 258 < 3 by omega)
  rw [Nat.sub_add_cancel h1] at this
  exact this
theorem ydec_all (m : Nat) (h : m < 261) : ydecM m = true := by
  by_cases h0 : m < 21
  · exact ydec0 m (by omega) h0
  by_cases h1 : m < 39
  · exact ydec1 m (by omega) h1
  by_cases h2 : m < 49
  · exact ydec2 m (by omega) h2
  by_cases h3 : m < 63
  · exact ydec3 m (by omega) h3
  by_cases h4 : m < 71
  · exact ydec4 m (by omega) h4
  by_cases h5 : m < 79
  · exact ydec5 m (by omega) h5
  by_cases h6 : m < 92
  · exact ydec6 m (by omega) h6
  by_cases h7 : m < 104
  · exact ydec7 m (by omega) h7
  by_cases h8 : m < 112
  · exact ydec8 m (by omega) h8
  by_cases h9 : m < 121
  · exact ydec9 m (by omega) h9
  by_cases h10 : m < 132
  · exact ydec10 m (by omega) h10
  by_cases h11 : m < 146
  · exact ydec11 m (by omega) h11
  by_cases h12 : m < 151
  · exact ydec12 m (by omega) h12
  by_cases h13 : m < 156
  · exact ydec13 m (by omega) h13
  by_cases h14 : m < 166
  · exact ydec14 m (by omega) h14
  by_cases h15 : m < 174
  · exact ydec15 m (by omega) h15
  by_cases h16 : m < 182
  · exact ydec16 m (by omega) h16
  by_cases h17 : m < 193
  · exact ydec17 m (by omega) h17
  by_cases h18 : m < 200
  · exact ydec18 m (by omega) h18
  by_cases h19 : m < 208
  · exact ydec19 m (by omega) h19
  by_cases h20 : m < 216
  · exact ydec20 m (by omega) h20
  by_cases h21 : m < 222
  · exact ydec21 m (by omega) h21
  by_cases h22 : m < 230
  · exact ydec22 m (by omega) h22
  by_cases h23 : m < 237
  · exact ydec23 m (by omega) h23
  by_cases h24 : m < 241
  · exact ydec24 m (by omega) h24
  by_cases h25 : m < 250
  · exact ydec25 m (by omega) h25
  by_cases h26 : m < 258
  · exact ydec26 m (by omega) h26
  exact ydec27 m (by omega) h
theorem yOk_I : zOkI9 yPI yMC yMl := by
  intro mid pc i h hnw
  unfold yPI at h
  split at h
  case h_1 c hc =>
    split at h
    case h_1 p hp =>
      have e1 : p.1 = pc := by have := List.find?_some hp; simpa using this
      have e2 : p.2 = i := Option.some.inj h
      have hm : mid < 261 := by
        rcases Nat.lt_or_ge mid 261 with q | q
        · exact q
        · have hz : yIm mid = [] := by
            unfold yIm
            by_cases h16 : mid / 16 < yIL.length
            · have e0 : yIL.length = 17 := by decide +kernel
              have e3 : mid / 16 = 16 := by omega
              rw [e3]
              have e4 : (yIL.getD 16 []).length = 5 := by decide +kernel
              rw [List.getD_eq_getElem?_getD, List.getElem?_eq_none (by rw [e4]; omega)]
              rfl
            · rw [List.getD_eq_getElem?_getD (l := yIL), List.getElem?_eq_none (by omega)]
              rfl
          rw [hz] at hc
          cases hc
      have ha := ydec_all mid hm
      unfold ydecM at ha
      have hb := List.all_eq_true.mp (List.all_eq_true.mp ha c (List.mem_of_find?_eq_some hc)) p (List.mem_of_find?_eq_some hp)
      rw [e1, e2] at hb
      unfold ydec at hb
      have hn0 : yisN i = false := by
        cases hn9 : yisN i with
        | false => rfl
        | true =>
          unfold yisN at hn9
          split at hn9
          case h_1 x => exact absurd rfl (hnw x)
          case h_2 => cases hn9
      rw [hn0, Bool.false_or, Bool.and_eq_true] at hb
      refine ⟨hb.1, ?_⟩
      have hd := hb.2
      split at hd
      case h_1 j n hj =>
        simp only [Bool.and_eq_true, Bool.or_eq_true, decide_eq_true_eq] at hd
        exact ⟨n, by rw [hj, hd.1], hd.2⟩
      case h_2 => cases hd
    case h_2 => cases h
  case h_2 => cases h
