/-! a check by pieces -/
theorem qall0 {α : Type} {P : α → Bool} : ([] : List α).all P = true := rfl
theorem qall1 {α : Type} {P : α → Bool} {a : α} {l : List α} (h : P a = true) (hl : l.all P = true) : (a :: l).all P = true := by
  rw [List.all_cons, h, hl]
  rfl
theorem qChk_of {F : Nat} {Q : sQ} {sp : List (sE × List Int)} {R : List sQ} {L : List (Nat × List qAp)} {RL : List (Nat × List sQ)} {Qs : List sQ} (h0 : qSeg F Q L RL Qs 0 (Q.2.1, sp, R) = true) (hl : L.all (fun p => p.2.all (fun A => qSeg F Q L RL Qs p.1 A)) = true) : qChk F Q sp R L RL Qs = true := by
  unfold qChk
  rw [h0, hl]
  rfl
