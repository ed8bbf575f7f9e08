/-! what a method's end says; a call by what is told of the method -/
/-- an end: its result, places, bounds of new signs, constraints, where the new signs come from -/
abbrev sX : Type := Option (Nat × sE) × List (Nat × sE × sE) × sB × List sE × List Nat
abbrev sQ : Type := Nat × sA × List sX × sD × Nat
noncomputable def srt (reg : Nat → Nat) (ρ : Nat → Int) : Option (Nat × sE) → Option zV → Prop
  | none, none => True
  | some (0, e), some v => sm reg ρ v (.inl e)
  | some (_ + 1, e), some v => sm reg ρ v (.inr (.inl e))
  | _, _ => False
noncomputable def sEx (reg : Nat → Nat) (gv : Nat → zH → Int) (n : Nat) (X : sX) (ρ0 : Nat → Int) (r : Option zV) (h : zH) : Prop := ∃ ρx : Nat → Int, (∀ j, j < n → ρx j = ρ0 (j + 1)) ∧ (∀ k b, X.2.2.1[k]? = some b → b.1 ≤ ρx (n + k) ∧ ρx (n + k) ≤ b.2) ∧ (∀ c ∈ X.2.2.2.1, sv ρx c ≤ 0) ∧ (∀ m ∈ X.2.1, smm reg gv ρx h m) ∧ srt reg ρx X.1 r
section SXD
variable (sing : Nat → Bool) (gG : Nat → List (Nat × Nat × Int × Int)) (gu : Nat → sD) (rin : Nat → (Nat × List Nat) ⊕ (Nat × Nat × List Nat)) (mL : Nat → Nat)
noncomputable def sen (S : sS) (n s : Nat) : Option sE := if s < n then (match S.2.2.2.2.2.find? (fun q => q.1 == s + 1) with
  | some q => some q.2
  | none => none) else none
/-- the values of an end's places -/
noncomputable def srv (n : Nat) : List (Nat × sE × sE) → sS → List sE → Option (List sE × sS)
  | [], S, es => some (es, S)
  | m :: l, S, es => if m.1 < 1000 then (match ssu (sen S n) m.2.1 with
      | some i => if (sing m.1 && spr S (sng i)) = true then (match sldE sing gG S m.1 i es with
        | some (e, T) => srv n l T (es ++ [e])
        | none => none) else none
      | none => none)
    else (match S.2.2.1.find? (fun q => q.1 == m.1) with
      | some q => srv n l S (es ++ [q.2.2])
      | none => none)
noncomputable def sxs (T : sS) (n : Nat) (src : List Nat) (es : List sE) (s : Nat) : Option sE := if s < n then sen T n s else (match src[s - n]? with
  | some k => es[k]?
  | none => none)
noncomputable def sxe (T : sS) (σ : Nat → Option sE) (val : sE) (o : Option sE) : Bool := match ssu σ val, o with
  | some d, some e => sz0 (sadd d e (-1))
  | _, _ => false
noncomputable def sxb (T : sS) (σ : Nat → Option sE) (n : Nat) : Nat → sB → Bool
  | _, [] => true
  | k, b :: l => (match σ (n + k) with
    | some e => spr T (sac e (-b.2)) && spr T (sac (sng e) b.1)
    | none => false) && sxb T σ n (k + 1) l
noncomputable def sxh (T : sS) (σ : Nat → Option sE) (es : List sE) : Nat → List (Nat × sE × sE) → Bool
  | _, [] => true
  | k, m :: l => sxe T σ m.2.2 es[k]? && sxh T σ es (k + 1) l
noncomputable def sxc (T : sS) (σ : Nat → Option sE) (c : sE) : Bool := match ssu σ c with
  | some d => spr T d
  | none => false
/-- the state may end so -/
noncomputable def sxr (n : Nat) (X : sX) (S : sS) : Bool := match S.2.1, X.1 with
  | [.inl e], some (0, v) => (match srv sing gG n X.2.1 S [e] with
    | some (es, T) => sxe T (sxs T n X.2.2.2.2 es) v es[0]? && (sxh T (sxs T n X.2.2.2.2 es) es 1 X.2.1 && (sxb T (sxs T n X.2.2.2.2 es) n 0 X.2.2.1 && X.2.2.2.1.all (sxc T (sxs T n X.2.2.2.2 es))))
    | none => false)
  | [.inr (.inl e)], some (_ + 1, v) => (match srv sing gG n X.2.1 S [e] with
    | some (es, T) => sxe T (sxs T n X.2.2.2.2 es) v es[0]? && (sxh T (sxs T n X.2.2.2.2 es) es 1 X.2.1 && (sxb T (sxs T n X.2.2.2.2 es) n 0 X.2.2.1 && X.2.2.2.1.all (sxc T (sxs T n X.2.2.2.2 es))))
    | none => false)
  | [], none => (match srv sing gG n X.2.1 S [] with
    | some (es, T) => sxh T (sxs T n X.2.2.2.2 es) es 0 X.2.1 && (sxb T (sxs T n X.2.2.2.2 es) n 0 X.2.2.1 && X.2.2.2.1.all (sxc T (sxs T n X.2.2.2.2 es)))
    | none => false)
  | _, _ => false
noncomputable def sent : Nat → List sV → List (Nat × sV)
  | _, [] => []
  | k, v :: vs => (k, v) :: sent (if slg v = true then k + 2 else k + 1) vs
noncomputable def sfn : sB → List sE → sS → Option (List sE × sS)
  | [], σ, S => some (σ, S)
  | b :: l, σ, S => match sfr b.1 b.2 S σ with
    | some (e, T) => sfn l (σ ++ [e]) T
    | none => none
/-- constraints assumed; none: they can't be; some none: this can't come -/
noncomputable def scas (σ : List sE) : List sE → sS → Option (Option sS)
  | [], S => some (some S)
  | c :: l, S => match ssu (fun s => σ[s]?) c with
    | some d => (match sas S d with
      | some T => scas σ l T
      | none => some none)
    | none => none
noncomputable def shm (σ : List sE) : List (Nat × sE × sE) → Option (List (Nat × sE × sE))
  | [] => some []
  | m :: l => match ssu (fun s => σ[s]?) m.2.1, ssu (fun s => σ[s]?) m.2.2, shm σ l with
    | some i, some v, some r => some ((m.1, i, v) :: r)
    | _, _, _ => none
noncomputable def srp (σ : List sE) : Option (Nat × sE) → Option (List sV)
  | none => some []
  | some (0, e) => (match ssu (fun s => σ[s]?) e with
    | some d => some [.inl d]
    | none => none)
  | some (_ + 1, e) => (match ssu (fun s => σ[s]?) e with
    | some d => some [.inr (.inl d)]
    | none => none)
/-- the state behind a call that ends by X -/
noncomputable def sap1 (loc : List (Nat × sV)) (rest : List sV) (md : sD) (σ : List sE) (T : sS) (X : sX) : Option (Option sS) := match sfn X.2.2.1 σ (skl gu md T) with
  | some (σ', T1) => (match scas σ' X.2.2.2.1 T1 with
    | some (some T2) => (match shm σ' X.2.1, srp σ' X.1 with
      | some ms, some rv => some (some (loc, rv ++ rest, ms ++ T2.2.2.1, T2.2.2.2))
      | _, _ => none)
    | some none => some none
    | none => none)
  | none => none
noncomputable def sap2 (loc : List (Nat × sV)) (rest : List sV) (md : sD) (σ : List sE) (T : sS) : List sX → Option (List sS)
  | [] => some []
  | X :: l => match sap1 gu loc rest md σ T X, sap2 loc rest md σ T l with
    | some (some S), some L => some (S :: L)
    | some none, some L => some L
    | _, _ => none
noncomputable def src0 (kc : Nat) : List sV → Bool
  | .inr (.inr r) :: _ => (match rin r with
    | .inl (ci, _) => ci == kc
    | .inr (t, _, _) => t == 5 && kc == 99)
  | _ => false
noncomputable def scal (S : sS) (callee na kc : Nat) (Q : sQ) : Option (List sS) :=
  if (decide (Q.1 = callee) && (decide (na ≤ S.2.1.length) && (decide (((S.2.1.drop na).map sct).sum ≤ 8) && (decide (((S.2.1.take na).reverse.map sct).sum ≤ mL callee) && (Q.2.1.2.2.2.2.1.all (fun p => p.1 == p.2) && (decide (kc = 100) || (decide (kc < 100) && src0 rin kc (S.2.1.take na).reverse))))))) = true then
    (match sar0 sing gG Q.2.1 (sent 0 (S.2.1.take na).reverse, S.2.1 ++ S.1.map (·.2), S.2.2) with
    | some (σ, T) => sap2 gu S.1 (S.2.1.drop na) Q.2.2.2.1 σ T Q.2.2.1
    | none => none) else none
end SXD
