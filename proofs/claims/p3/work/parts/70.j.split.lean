/-! a long segment in pieces -/
theorem prls_app : ∀ (R : List sQ) (L1 L2 : List sS), prls pSin pG pGu R (L1 ++ L2) = prls pSin pG pGu R L1 ++ prls pSin pG pGu R L2
  | [], _, _ => rfl
  | Q :: R, L1, L2 => by
    show prls pSin pG pGu R ((L1 ++ L2).flatMap (prl pSin pG pGu Q)) = prls pSin pG pGu R (L1.flatMap (prl pSin pG pGu Q)) ++ prls pSin pG pGu R (L2.flatMap (prl pSin pG pGu Q))
    rw [List.flatMap_append, prls_app R]
def pSegL (F : Nat) (Q : sQ) (L : List (Nat × List pAp)) (Qs : List sQ) (pc : Nat) (R : List sQ) (M : List sS) : Bool := (prls pSin pG pGu R M).all (fun S => pseg yPI yMl yMr yFld yKI yKL yGst yLdS yFldS yAcp yCal pReg pRin pSin pG pGu (plab Q L) Qs Q.2.2.2.1 Q.2.1.2.1.length Q.2.2.1 Q.1 F pc true S)
def pSegT (a b F : Nat) (Q : sQ) (L : List (Nat × List pAp)) (Qs : List sQ) (pc : Nat) (A : pAp) : Bool := pSegL F Q L Qs pc A.2.2 (((ssps A.2.1 [sAs A.1]).drop a).take b)
def pSegD (a F : Nat) (Q : sQ) (L : List (Nat × List pAp)) (Qs : List sQ) (pc : Nat) (A : pAp) : Bool := pSegL F Q L Qs pc A.2.2 ((ssps A.2.1 [sAs A.1]).drop a)
section PSEGS
variable {F : Nat} {Q : sQ} {L : List (Nat × List pAp)} {Qs : List sQ} {pc : Nat} {R : List sQ} {A : pAp}
theorem pSegL_app (M N : List sS) : pSegL F Q L Qs pc R (M ++ N) = (pSegL F Q L Qs pc R M && pSegL F Q L Qs pc R N) := by
  unfold pSegL
  rw [prls_app, List.all_append]
theorem pSegS {M : List sS} {a c : Nat} (h1 : pSegL F Q L Qs pc R ((M.drop a).take c) = true) (h2 : pSegL F Q L Qs pc R (M.drop (a + c)) = true) : pSegL F Q L Qs pc R (M.drop a) = true := by
  have e : M.drop a = (M.drop a).take c ++ M.drop (a + c) := (List.take_append_drop c (M.drop a)).symm.trans (by rw [List.drop_drop])
  rw [e, pSegL_app, h1, h2]
  rfl
theorem pSeg4 (c : Nat) (h1 : pSegT 0 c F Q L Qs pc A = true) (h2 : pSegT (0 + c) c F Q L Qs pc A = true) (h3 : pSegT (0 + c + c) c F Q L Qs pc A = true) (h4 : pSegD (0 + c + c + c) F Q L Qs pc A = true) : pSeg F Q L Qs pc A = true := pSegS (R := A.2.2) (M := ssps A.2.1 [sAs A.1]) (a := 0) h1 (pSegS h2 (pSegS h3 h4))
end PSEGS
