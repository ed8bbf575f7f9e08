/-! a long segment in pieces -/
theorem prls_app : ∀ (R : List sQ) (L1 L2 : List sS), prls pSin pG pGu R (L1 ++ L2) = prls pSin pG pGu R L1 ++ prls pSin pG pGu R L2
  | [], _, _ => rfl
  | Q :: R, L1, L2 => by
    show prls pSin pG pGu R ((L1 ++ L2).flatMap (prl pSin pG pGu Q)) = prls pSin pG pGu R (L1.flatMap (prl pSin pG pGu Q)) ++ prls pSin pG pGu R (L2.flatMap (prl pSin pG pGu Q))
    rw [List.flatMap_append, prls_app R]
noncomputable def pSegL (F : Nat) (Q : sQ) (L : List (Nat × List pAp)) (Qs : List sQ) (pc : Nat) (R : List sQ) (M : List sS) : Bool := (prls pSin pG pGu R M).all (fun S => pseg yPI yMl yMr yFld yKI yKL yGst yLdS yFldS yAcp yCal pReg pRin pSin pG pGu (plab Q L) Qs Q.2.2.2.1 Q.2.1.2.1.length Q.2.2.1 Q.1 F pc true S)
noncomputable def pSegT (a b F : Nat) (Q : sQ) (L : List (Nat × List pAp)) (Qs : List sQ) (pc : Nat) (A : pAp) : Bool := pSegL F Q L Qs pc A.2.2 (((ssps A.2.1 [sAs A.1]).drop a).take b)
noncomputable def pSegD (a F : Nat) (Q : sQ) (L : List (Nat × List pAp)) (Qs : List sQ) (pc : Nat) (A : pAp) : Bool := pSegL F Q L Qs pc A.2.2 ((ssps A.2.1 [sAs A.1]).drop a)
section PSEGS
variable {F : Nat} {Q : sQ} {L : List (Nat × List pAp)} {Qs : List sQ} {pc : Nat} {R : List sQ} {A : pAp}
theorem pSegL_app (M N : List sS) : pSegL F Q L Qs pc R (M ++ N) = (pSegL F Q L Qs pc R M && pSegL F Q L Qs pc R N) := by
  unfold pSegL
  rw [prls_app, List.all_append]
theorem pSegS {M : List sS} {a c : Nat} (h1 : pSegL F Q L Qs pc R ((M.drop a).take c) = true) (h2 : pSegL F Q L Qs pc R (M.drop (a + c)) = true) : pSegL F Q L Qs pc R (M.drop a) = true := by
  have e : M.drop a = (M.drop a).take c ++ M.drop (a + c) := (List.take_append_drop c (M.drop a)).symm.trans (by rw [List.drop_drop])
  rw [e, pSegL_app, h1, h2]
  rfl
theorem pSeg4 (c : Nat) (h1 : pSegT 0 c F Q L Qs pc A = true) (h2 : pSegT (0 + c) c F Q L Qs pc A = true) (h3 : pSegT (0 + c + c) c F Q L Qs pc A = true) (h4 : pSegD (0 + c + c + c) F Q L Qs pc A = true) : pSeg F Q L Qs pc A = true := pSegS (R := A.2.2) (M := ssps A.2.1 [sAs A.1]) (a := 0) h1 (pSegS h2 (pSegS h3 h4))
theorem pSeg16 (h0 : pSegT 0 1 F Q L Qs pc A = true) (h1 : pSegT 1 1 F Q L Qs pc A = true) (h2 : pSegT 2 1 F Q L Qs pc A = true) (h3 : pSegT 3 1 F Q L Qs pc A = true) (h4 : pSegT 4 1 F Q L Qs pc A = true) (h5 : pSegT 5 1 F Q L Qs pc A = true) (h6 : pSegT 6 1 F Q L Qs pc A = true) (h7 : pSegT 7 1 F Q L Qs pc A = true) (h8 : pSegT 8 1 F Q L Qs pc A = true) (h9 : pSegT 9 1 F Q L Qs pc A = true) (h10 : pSegT 10 1 F Q L Qs pc A = true) (h11 : pSegT 11 1 F Q L Qs pc A = true) (h12 : pSegT 12 1 F Q L Qs pc A = true) (h13 : pSegT 13 1 F Q L Qs pc A = true) (h14 : pSegT 14 1 F Q L Qs pc A = true) (h15 : pSegD 15 F Q L Qs pc A = true) : pSeg F Q L Qs pc A = true := pSegS (R := A.2.2) (M := ssps A.2.1 [sAs A.1]) (a := 0) (c := 1) h0 (pSegS (a := 1) (c := 1) h1 (pSegS (a := 2) (c := 1) h2 (pSegS (a := 3) (c := 1) h3 (pSegS (a := 4) (c := 1) h4 (pSegS (a := 5) (c := 1) h5 (pSegS (a := 6) (c := 1) h6 (pSegS (a := 7) (c := 1) h7 (pSegS (a := 8) (c := 1) h8 (pSegS (a := 9) (c := 1) h9 (pSegS (a := 10) (c := 1) h10 (pSegS (a := 11) (c := 1) h11 (pSegS (a := 12) (c := 1) h12 (pSegS (a := 13) (c := 1) h13 (pSegS (a := 14) (c := 1) h14 (h15)))))))))))))))
end PSEGS
