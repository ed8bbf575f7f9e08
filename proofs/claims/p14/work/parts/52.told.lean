/-! what is told of the methods, and that it holds -/
def yGu : Nat → sD := fun _ => []
def yGv : Nat → zH → Int := fun _ _ => 0
theorem yGvOk : sGv yReg yGu yGv := fun _ _ _ _ => rfl
abbrev ySum (Q : sQ) : Prop := sSum yTab yPI yMl yMr yFld yKI yKL yGst yLdS yFldS yAcp yCal yReg yG yGv Q
def slab (Q : sQ) (L : List (Nat × List sA)) (pc : Nat) : List sA := if pc = 0 then Q.2.1 :: (match L.find? (fun p => p.1 == 0) with
  | some p => p.2
  | none => []) else (match L.find? (fun p => p.1 == pc) with
  | some p => p.2
  | none => [])
def yChk (F : Nat) (Q : sQ) (L : List (Nat × List sA)) (Qs : List sQ) : Bool := sseg yPI yMl yMr yFld yKI yKL yGst yLdS yFldS yAcp yCal yReg yRin ySin yG yGu (slab Q L) Qs Q.2.2.2.1 Q.2.2.2.2 Q.2.1.2.1.length Q.2.2.1 Q.1 F 0 true (sAs Q.2.1) && L.all (fun p => p.2.all (fun A => sseg yPI yMl yMr yFld yKI yKL yGst yLdS yFldS yAcp yCal yReg yRin ySin yG yGu (slab Q L) Qs Q.2.2.2.1 Q.2.2.2.2 Q.2.1.2.1.length Q.2.2.1 Q.1 F p.1 true (sAs A)))
theorem yOk {F : Nat} {Q : sQ} {L : List (Nat × List sA)} {Qs : List sQ} (hc : yChk F Q L Qs = true) (hQ : ∀ Q ∈ Qs, ySum Q) : ySum Q := by
  unfold yChk at hc
  rw [Bool.and_eq_true] at hc
  have hf : ∀ (pc : Nat) (A : sA), A ∈ (match L.find? (fun p => p.1 == pc) with | some p => p.2 | none => []) → sseg yPI yMl yMr yFld yKI yKL yGst yLdS yFldS yAcp yCal yReg yRin ySin yG yGu (slab Q L) Qs Q.2.2.2.1 Q.2.2.2.2 Q.2.1.2.1.length Q.2.2.1 Q.1 F pc true (sAs A) = true := by
    intro pc A hA
    cases hl : L.find? (fun p => p.1 == pc) with
    | none => rw [hl] at hA; cases hA
    | some p =>
      rw [hl] at hA
      have h1 : p.1 = pc := by have := List.find?_some hl; simpa using this
      have := (List.all_eq_true.mp ((List.all_eq_true.mp hc.2) p (List.mem_of_find?_eq_some hl))) A hA
      rw [h1] at this
      exact this
  refine smeth (labs := slab Q L) (F := F) yComp ySing yCell yR1000 yGvOk hQ (List.mem_cons_self ..) ?_
  intro pc A hA
  unfold slab at hA
  by_cases h0 : pc = 0
  · rw [if_pos h0] at hA
    rcases List.mem_cons.mp hA with rfl | hA
    · rw [h0]
      exact hc.1
    · rw [h0]
      exact hf 0 A hA
  · rw [if_neg h0] at hA
    exact hf pc A hA
theorem yNil : ∀ Q ∈ ([] : List sQ), ySum Q := fun Q hQ => by cases hQ
theorem yCons {Q : sQ} {l : List sQ} (h : ySum Q) (hl : ∀ Q ∈ l, ySum Q) : ∀ P ∈ Q :: l, ySum P := List.forall_mem_cons.mpr ⟨h, hl⟩
