/-- feed -/
noncomputable def yGsF : List (Nat × Int × Int) := yGs ++ ([15, 16, 17, 18, 19].map (fun a => (a, (-2147483648 : Int), (2147483647 : Int))) ++ (List.range 20).map (fun k => (20 + k, (0 : Int), (1 : Int))))
noncomputable def yKsF : List yKc := [1, 2, 3, 4, 5].flatMap (fun j => [(0, [((0, j, (0, [])), 1), ((2, 1014 + j, (0, [])), (-1))]), (0, [((0, j, (0, [])), (-1)), ((2, 1014 + j, (0, [])), 1)])])
theorem yP_X12_feed {h : zH} (hI : yInv h) (a b c d e : Int32) : yGood 60 122 [.inr (.inr 440), .inl a, .inl b, .inl c, .inl d, .inl e] h := by
  have hgs : ∀ z ∈ yGsF, z.2.1 ≤ yGv 0 0 (fun _ => 0) (fun _ => 0) (yar a b c d e) z.1 h ∧ yGv 0 0 (fun _ => 0) (fun _ => 0) (yar a b c d e) z.1 h ≤ z.2.2 := by
    intro z hz
    rcases List.mem_append.mp hz with hz | hz
    · exact yGs_ok hI z hz
    · rcases List.mem_append.mp hz with hz | hz
      · obtain ⟨k, hk, rfl⟩ := List.mem_map.mp hz
        simp only [List.mem_cons, List.not_mem_nil, or_false] at hk
        rcases hk with rfl | rfl | rfl | rfl | rfl
        · exact si32 a
        · exact si32 b
        · exact si32 c
        · exact si32 d
        · exact si32 e
      · obtain ⟨k, hk, rfl⟩ := List.mem_map.mp hz
        have hk := List.mem_range.mp hk
        have e1 : yGv 0 0 (fun _ => 0) (fun _ => 0) (yar a b c d e) (20 + k) h = if yby (yar a b c d e) k = 0 then 0 else 1 := by
          unfold yGv
          rw [if_neg (by omega), if_neg (by omega), if_neg (by omega), if_neg (by omega), if_neg (by omega), if_neg (by omega), if_neg (by omega), if_neg (by omega), if_neg (by omega), if_neg (by omega), if_neg (by omega), if_neg (by omega), if_pos (by omega), Nat.add_sub_cancel_left]
        show (0 : Int) ≤ yGv 0 0 (fun _ => 0) (fun _ => 0) (yar a b c d e) (20 + k) h ∧ _ ≤ (1 : Int)
        rw [e1]
        split
        · exact ⟨by decide, by decide⟩
        · exact ⟨by decide, by decide⟩
  have hks : ∀ k ∈ yKsF, k.1 + ysum (ywl (yGv 0 0 (fun _ => 0) (fun _ => 0) (yar a b c d e)) [.inr (.inr 440), .inl a, .inl b, .inl c, .inl d, .inl e] h) k.2 ≤ 0 := by
    intro k hk
    obtain ⟨j, hj, hk⟩ := List.mem_flatMap.mp hk
    simp only [List.mem_cons, List.not_mem_nil, or_false] at hj hk
    rcases hj with rfl | rfl | rfl | rfl | rfl <;> rcases hk with rfl | rfl
    · show 0 + (1 * a.toInt + (-1 * a.toInt + 0)) ≤ 0; omega
    · show 0 + (-1 * a.toInt + (1 * a.toInt + 0)) ≤ 0; omega
    · show 0 + (1 * b.toInt + (-1 * b.toInt + 0)) ≤ 0; omega
    · show 0 + (-1 * b.toInt + (1 * b.toInt + 0)) ≤ 0; omega
    · show 0 + (1 * c.toInt + (-1 * c.toInt + 0)) ≤ 0; omega
    · show 0 + (-1 * c.toInt + (1 * c.toInt + 0)) ≤ 0; omega
    · show 0 + (1 * d.toInt + (-1 * d.toInt + 0)) ≤ 0; omega
    · show 0 + (-1 * d.toInt + (1 * d.toInt + 0)) ≤ 0; omega
    · show 0 + (1 * e.toInt + (-1 * e.toInt + 0)) ≤ 0; omega
    · show 0 + (-1 * e.toInt + (1 * e.toInt + 0)) ≤ 0; omega
  obtain ⟨m, x, h', r1, r2, r3⟩ := ytop (t := 0) (s := 0) (c0 := fun _ => 0) (v0 := fun _ => 0) (ar := yar a b c d e) (Q := yQ355) (r0 := 120) (tys := [(1, 0, (-2147483648), 2147483647), (2, 0, (-2147483648), 2147483647), (3, 0, (-2147483648), 2147483647), (4, 0, (-2147483648), 2147483647), (5, 0, (-2147483648), 2147483647)]) (gs := yGsF) (kcs := yKsF) (args := [.inr (.inr 440), .inl a, .inl b, .inl c, .inl d, .inl e]) (by decide) (yS355 (yGvOk (by decide)) (yHy_le (by decide) (yHyB (by decide)))) hI ⟨440, rfl, by decide +kernel⟩ (yt1 (yti (x := a) rfl (si32 a)) (yt1 (yti (x := b) rfl (si32 b)) (yt1 (yti (x := c) rfl (si32 c)) (yt1 (yti (x := d) rfl (si32 d)) (yt1 (yti (x := e) rfl (si32 e)) yt0))))) hgs hks (by decide +kernel) (d := 60) (by decide)
  exact ⟨m, x, h', r1, r2, yfr r3 (by decide +kernel), yfr r3 (by decide +kernel)⟩
