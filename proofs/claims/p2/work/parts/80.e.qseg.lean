/-! the engine Q: 80.e.qseg -/
section PLV
variable {reg : Nat → Nat} {gv : Nat → Int → Int → zH → Prop} {ρ ρ0 : Nat → Int} {S : sS} {loc : zL} {stk : List zV} {h : zH}
theorem plv_okQ (hM : sMtQ reg gv ρ ρ0 S loc stk h) : ∀ T ∈ plv S, sMtQ reg gv ρ ρ0 T loc stk h := by
  intro T hT
  unfold plv at hT
  split at hT
  · rcases List.mem_cons.mp hT with rfl | hT
    · exact hM
    · rcases List.mem_singleton.mp hT with rfl
      obtain ⟨m1, m2, m3, m4, m5, m6⟩ := hM
      exact ⟨m1, m2, m3, m4, fun c hc => m5 c ((List.dropLast_sublist _).subset hc), m6⟩
  · rcases List.mem_singleton.mp hT with rfl
    exact hM
theorem pmrk_okQ (hM : sMtQ reg gv ρ ρ0 S loc stk h) : sMtQ reg gv ρ ρ0 (pmrk S) loc stk h := by
  unfold pmrk
  split
  · exact hM
  · obtain ⟨m1, m2, m3, m4, m5, m6⟩ := hM
    refine ⟨m1, m2, m3, m4, fun c hc => ?_, m6⟩
    rcases List.mem_append.mp hc with hc | hc
    · exact m5 c hc
    · rcases List.mem_singleton.mp hc with rfl
      exact Int.le_refl 0
theorem pmk_okQ (b : Bool) (hM : sMtQ reg gv ρ ρ0 S loc stk h) : sMtQ reg gv ρ ρ0 (pmk b S) loc stk h := by
  unfold pmk
  split
  · exact pmrk_okQ hM
  · exact hM
theorem prm_okQ (S : sS) {L : List sS} (hL : ∃ T ∈ L, ∃ ρ', sMtQ reg gv ρ' ρ0 T loc stk h) : ∃ T ∈ prm S L, ∃ ρ', sMtQ reg gv ρ' ρ0 T loc stk h := by
  obtain ⟨T, hT, ρ', hM⟩ := hL
  unfold prm
  split
  · exact ⟨pmrk T, List.mem_map_of_mem hT, ρ', pmrk_okQ hM⟩
  · exact ⟨T, hT, ρ', hM⟩
end PLV
section PSEG
variable (tab : Nat → (Nat × List Nat) ⊕ (Nat × Nat × List Nat)) (pI : Nat → Nat → Option Instr) (mL : Nat → Nat) (mR : Nat → Option FieldType) (fld : Nat → Nat → Option (Nat × Nat × Nat)) (kI : Nat → Nat → Option Int32) (kL : Nat → Nat → Option Int64) (gst : Nat → Nat → Option zV) (ldS fldS : Nat → Nat → Option Nat) (acp : Nat → Nat → Bool) (cal : Nat → Nat → Option (Nat × Nat × Nat))
variable (reg : Nat → Nat) (rin : Nat → (Nat × List Nat) ⊕ (Nat × Nat × List Nat)) (sing : Nat → Bool) (gG : Nat → List (Nat × Nat × Int × Int)) (gu : Nat → sD) (gv : Nat → Int → Int → zH → Prop)
noncomputable def pSumDQ (d : Nat) (Q : sQ) : Prop := ∀ (args : List zV) (h : zH) (ρ ρ0 : Nat → Int), sG reg gG h → sMtQ reg gv ρ ρ0 (sAs Q.2.1) (zent 0 args) [] h → ∀ (m : Nat) (r : Option zV) (h' : zH), zrun tab pI mL mR fld kI kL gst ldS fldS acp cal m d Q.1 0 (zent 0 args) [] h = some (r, h') → sG reg gG h' ∧ sF reg Q.2.2.2.1 h h' ∧ ∃ X ∈ Q.2.2.1, sExQ reg gv Q.2.1.2.1.length X ρ0 r h'
noncomputable def pSumQ (Q : sQ) : Prop := ∀ d, pSumDQ tab pI mL mR fld kI kL gst ldS fldS acp cal reg gG gv d Q
/-- a rule: what one place tells of others -/
noncomputable def pRulQ (Q : sQ) : Prop := ∀ (loc : zL) (h : zH) (ρ ρ0 : Nat → Int), sG reg gG h → sMtQ reg gv ρ ρ0 (sAs Q.2.1) loc [] h → ∃ X ∈ Q.2.2.1, sExQ reg gv Q.2.1.2.1.length X ρ0 none h
/-- a place of row b that a copy of c places from s on takes along -/
noncomputable def qcf (T : sS) (b : Nat) (s c : Int) (m : Nat × sE × sE) : Bool := decide (m.1 = b) && (spr T (sac (sng m.2.1) s) && spr T (sac m.2.1 (1 - s - c)))
/-- behind a copy out of a table of constants: what stands there then -/
noncomputable def pexQ (i : Instr) (S T : sS) : sS := match i with
  | .invokestatic _ => (match S.2.1 with
    | .inl n :: .inl dp :: .inr (.inr a) :: .inl sp :: .inr (.inr b) :: _ => (match rin b with
      | .inr (4, _, q) => (match sCo sp, sCo dp, sCo n with
        | some s, some d, some c => if (sing a && (decide (a < 1000) && (decide (0 ≤ s) && (decide (0 ≤ d) && q.all (fun x => decide (x ≤ 2147483647)))))) = true then (T.1, T.2.1, (List.range c.toNat).map (fun (j : Nat) => (a, sK (d + (j : Int)), sK ((q.getD (s.toNat + j) 0 : Nat) : Int))) ++ T.2.2.1, T.2.2.2) else T
        | _, _, _ => T)
      | .inr (0, _, _) => (match sCo sp, sCo dp, sCo n with
        | some s, some d, some c => if (sing a && (decide (a < 1000) && (decide (b < 1000) && (!decide (b = a) && (decide (0 ≤ s) && decide (0 ≤ d)))))) = true then (T.1, T.2.1, (T.2.2.1.filter (qcf T b s c)).map (fun m => (a, sac m.2.1 (d - s), m.2.2)) ++ T.2.2.1, T.2.2.2) else T
        | _, _, _ => T)
      | _ => T)
    | _ => T)
  | _ => T
noncomputable def parrQ (A : sA) (S : sS) : Bool := match sar0Q sing gG A S with
  | some (σ, T) => A.2.2.2.2.1.all (fun p => match T.2.2.2.2.2.find? (fun q => q.1 == p.1 + 1), σ[p.2]? with
      | some q, some e => peq T q.2 e
      | _, _ => false)
  | none => false
/-- a place whose ints' locals can't fit is left at once -/
noncomputable def pq0Q (S : sS) : List (Nat × Nat × sE) → sB → Bool
  | v :: vs, b :: bs => (if v.1 = 0 then (match sgl S v.2.1 with
    | some (.inl e) => (match sLb S.2.2.2.1 e, sUb S.2.2.2.1 e with
      | some x, some y => decide (x ≤ b.2) && decide (b.1 ≤ y)
      | _, _ => true)
    | _ => true) else true) && pq0Q S vs bs
  | _, _ => true
noncomputable def psclQ (mk : Bool) (S : sS) (callee na kc : Nat) (Q : sQ) : Option (List sS) :=
  if (decide (Q.1 = callee) && (decide (na ≤ S.2.1.length) && (decide (((S.2.1.drop na).map sct).sum ≤ 8) && (decide (((S.2.1.take na).reverse.map sct).sum ≤ mL callee) && (Q.2.1.2.2.2.2.1.all (fun p => p.1 == p.2) && (decide (kc = 100) || (decide (kc < 100) && src0 rin kc (S.2.1.take na).reverse))))))) = true then
    (match sar0Q sing gG Q.2.1 (sent 0 (S.2.1.take na).reverse, S.2.1 ++ S.1.map (·.2), S.2.2) with
    | some (σ, T) => sap2Q gu S.1 (S.2.1.drop na) Q.2.2.2.1 σ (pmk mk T) Q.2.2.1
    | none => none) else none
noncomputable def prl1Q (mk : Bool) (Q : sQ) (S : sS) : Option (List sS) := if (Q.2.1.2.2.2.2.1.all (fun p => p.1 == p.2)) = true then (match sar0Q sing gG Q.2.1 (S.1, S.2.1 ++ S.1.map (·.2), S.2.2) with
    | some (σ, T) => sap2Q gu S.1 S.2.1 Q.2.2.2.1 σ (pmk mk T) Q.2.2.1
    | none => none) else none
noncomputable def prlQ (Q : sQ) (S : sS) : List sS := match (plv S).findSome? (prl1Q sing gG gu (smk S.2.2.2.2.1) Q) with
  | some L => prm S L
  | none => [S]
noncomputable def prlsQ : List sQ → List sS → List sS
  | [], L => L
  | Q :: R, L => prlsQ R (L.flatMap (prlQ sing gG gu Q))
/-- a sum of bits, a rest: where they are plain -/
noncomputable def qin (S : sS) (e : sE) (lo hi : Int) : Bool := spr S (sac e (-hi)) && spr S (sac (sng e) lo)
noncomputable def qov (i : Instr) (S : sS) : Option (sE × List sV) := match i with
  | .ior => (match S.2.1 with
    | .inl b :: .inl a :: rest => if sCo a = none then (if sCo b = some 0 then some (a, rest) else if (decide (sCo b = some 1) && qin S a 0 1) = true then some (sK 1, rest) else none) else none
    | _ => none)
  | .irem => (match S.2.1 with
    | .inl b :: .inl a :: rest => if sCo b = none then (if (spr S (sac (sng b) 1) && (spr S (sng a) && spr S (sac (sadd a b (-1)) 1))) = true then some (a, rest) else if (spr S (sac (sng b) 1) && (spr S (sadd b a (-1)) && spr S (sac (sadd a b (-2)) 1))) = true then some (sadd a b (-1), rest) else none) else none
    | _ => none)
  | _ => none
/-- operations by tables: told 61 -/
noncomputable def qtd (S : sS) : Bool := S.2.2.1.any (fun m => decide (m.1 = 1061))
noncomputable def qo2 (S : sS) (g hb : Nat) : Option (Nat × sE) := match S.2.1 with
  | .inl b :: .inl a :: _ => if ((sCo a).isSome && (sCo b).isSome) = true then none else if (qin S a 0 63 && qin S b 0 hb) = true then some (g, sadd a b 64) else none
  | _ => none
noncomputable def qo3 (S : sS) (g : Nat) : Option (Nat × sE) := match S.2.1 with
  | .inl b :: .inl a :: _ => (match sCo b with
    | some c => if (decide (1 ≤ c) && (decide (c ≤ 99) && qin S a 0 9999)) = true then some (g, sac a (10000 * c)) else none
    | none => none)
  | _ => none
noncomputable def qot (i : Instr) (S : sS) : Option (Nat × sE) := if qtd S = true then (match i with
  | .ior => qo2 S 700 63
  | .ishl => qo2 S 701 5
  | .ishr => qo2 S 702 5
  | .iand => qo2 S 703 63
  | .idiv => qo3 S 704
  | .irem => qo3 S 705
  | _ => none) else none
noncomputable def qT2 (reg : Nat → Nat) (h : zH) (g hb : Nat) (f : Int32 → Int32 → Int32) : Prop := ∃ k, reg k = g ∧ ∀ a b : Nat, a < 64 → b < hb → h.1 k (a + 64 * b) = f (Int32.ofNat a) (Int32.ofNat b)
noncomputable def qT3 (reg : Nat → Nat) (h : zH) (g : Nat) (f : Int32 → Int32 → Int32) : Prop := ∃ k, reg k = g ∧ ∀ a c : Nat, a < 10000 → 1 ≤ c → c < 100 → h.1 k (a + 10000 * c) = f (Int32.ofNat a) (Int32.ofNat c)
noncomputable def qTab (reg : Nat → Nat) (h : zH) : Prop := qT2 reg h 700 64 (fun x y => x ||| y) ∧ qT2 reg h 701 6 (fun x y => x <<< (y &&& 31)) ∧ qT2 reg h 702 6 (fun x y => x >>> (y &&& 31)) ∧ qT2 reg h 703 64 (fun x y => x &&& y) ∧ qT3 reg h 704 (fun x y => x / y) ∧ qT3 reg h 705 (fun x y => x - x / y * y)

noncomputable def psegQ (labs : Nat → List sA) (rul : Nat → List sQ) (Qs : List sQ) (md : sD) (n : Nat) (Xs : List sX) (mid : Nat) : Nat → Nat → Bool → sS → Bool
  | 0, _, _, _ => false
  | f + 1, pc, first, S =>
    if (!first && !(labs pc).isEmpty) = true then (S.2.1.isEmpty && (plv S).any (fun S' => (labs pc).any (fun A => pq0Q S' A.2.1 A.2.2.1 && parrQ sing gG A S')))
    else match pI mid pc with
      | none => false
      | some i => match skd cal mid i with
        | 0 => (match qov i S with
          | some z => (prlsQ sing gG gu (rul (pc + 1)) [(S.1, .inl z.1 :: z.2, S.2.2)]).all (fun T => psegQ labs rul Qs md n Xs mid f (pc + 1) false T)
          | none => (match qot i S with
          | some z => (match sldEQ sing gG S z.1 z.2 [] with
            | some (v, T0) => (prlsQ sing gG gu (rul (pc + 1)) [(T0.1, .inl v :: T0.2.1.drop 2, T0.2.2)]).all (fun T => psegQ labs rul Qs md n Xs mid f (pc + 1) false T)
            | none => false)
          | none => (match pbl rin i pc S with
          | some z => (prlsQ sing gG gu (rul z.1) [z.2]).all (fun T => psegQ labs rul Qs md n Xs mid f z.1 false T)
          | none => (match pas rin i S with
            | none => true
            | some S1 => (match sstpQ fld kI kL gst ldS fldS acp reg rin sing gG gu mid md i pc S1 with
              | some L => L.all (fun z => (prlsQ sing gG gu (rul z.1) [pexQ rin sing i S1 z.2]).all (fun T => psegQ labs rul Qs md n Xs mid f z.1 false T))
              | none => false)))))
        | 1 => (match scl cal mid i with
          | some z => (match (plv S).findSome? (fun S' => Qs.findSome? (fun Q => if (decide (Q.1 = z.1) && (smo md Q.2.2.2.1 && pq0Q (sent 0 (S'.2.1.take z.2.1).reverse, [], S'.2.2) Q.2.1.2.1 Q.2.1.2.2.1)) = true then psclQ mL rin sing gG gu (smk S.2.2.2.2.1) S' z.1 z.2.1 z.2.2 Q else none)) with
            | some L => (prm S L).all (fun T0 => (prlsQ sing gG gu (rul (pc + 3)) [T0]).all (fun T => psegQ labs rul Qs md n Xs mid f (pc + 3) false T))
            | none => false)
          | none => false)
        | _ => srk (mR mid) i S && (plv S).any (fun S' => Xs.any (fun X => pxrQ sing gG n X S'))
end PSEG
section PSEGO
variable {tab : Nat → (Nat × List Nat) ⊕ (Nat × Nat × List Nat)} {pI : Nat → Nat → Option Instr} {mL : Nat → Nat} {mR : Nat → Option FieldType} {fld : Nat → Nat → Option (Nat × Nat × Nat)} {kI : Nat → Nat → Option Int32} {kL : Nat → Nat → Option Int64} {gst : Nat → Nat → Option zV} {ldS fldS : Nat → Nat → Option Nat} {acp : Nat → Nat → Bool} {cal : Nat → Nat → Option (Nat × Nat × Nat)}
variable {reg : Nat → Nat} {rin : Nat → (Nat × List Nat) ⊕ (Nat × Nat × List Nat)} {sing : Nat → Bool} {gG : Nat → List (Nat × Nat × Int × Int)} {gu : Nat → sD} {gv : Nat → Int → Int → zH → Prop} {ρ ρ0 : Nat → Int} {S : sS} {loc : zL} {stk : List zV} {h h0 : zH}
theorem pin_okQ {e : sE} {n : Nat} {x : Int32} (hM : sMtQ reg gv ρ ρ0 S loc stk h) (hx : x.toInt = sv ρ e) (hi : zin x n = true) : ∃ T, pin S e n = some T ∧ sMtQ reg gv ρ ρ0 T loc stk h := by
  have hi := of_decide_eq_true hi
  obtain ⟨T, t1, t2, -⟩ := sas_okQ hM (c := sng e) (by rw [sng_v]; omega)
  obtain ⟨T2, u1, u2, -⟩ := sas_okQ t2 (c := sac e (1 - (n : Int))) (by rw [sac_v]; omega)
  exact ⟨T2, by unfold pin; rw [t1]; exact u1, u2⟩
theorem pas_okQ (hcomp : ∀ k, rin (reg k) = smT reg (tab k)) (hM : sMtQ reg gv ρ ρ0 S loc stk h) {mid pc : Nat} {i : Instr} {q : zN} (hz : zst tab fld kI kL gst ldS fldS acp mid i pc loc stk h = some q) : ∃ T, pas rin i S = some T ∧ sMtQ reg gv ρ ρ0 T loc stk h := by
  have hs := hM.2.1
  cases i
  case iaload =>
    match hst : S.2.1, hs with
    | .inl e :: .inr (.inr r) :: rest, hs =>
      obtain ⟨x, r1, rfl, e1, e2⟩ := sms_i hs
      obtain ⟨k, r2, rfl, rfl, e3⟩ := sms_r e2
      simp only [pas, hst]
      cases ha : zar rin (reg k) 0 with
      | none => exact ⟨S, rfl, hM⟩
      | some z =>
        obtain ⟨n, w⟩ := z
        obtain ⟨ha2, ha3⟩ := sar_ok hcomp (by decide) (by decide) (by decide) ha
        by_cases hx : zin x n = true
        · exact pin_okQ hM e1 hx
        · exfalso
          unfold zst at hz
          simp [zf1, zf2, zoRI, ha2, zoA, zgd, hx, zf4, zf5, zf6, zar, ha3] at hz
    | [], hs => exact ⟨S, by simp only [pas, hst], hM⟩
    | [_], hs => exact ⟨S, by simp only [pas, hst], hM⟩
    | .inr _ :: _ :: _, hs => exact ⟨S, by simp only [pas, hst], hM⟩
    | .inl _ :: .inl _ :: _, hs => exact ⟨S, by simp only [pas, hst], hM⟩
    | .inl _ :: .inr (.inl _) :: _, hs => exact ⟨S, by simp only [pas, hst], hM⟩
  case iastore =>
    match hst : S.2.1, hs with
    | .inl v :: .inl e :: .inr (.inr r) :: rest, hs =>
      obtain ⟨y, r0, rfl, e0, hs⟩ := sms_i hs
      obtain ⟨x, r1, rfl, e1, e2⟩ := sms_i hs
      obtain ⟨k, r2, rfl, rfl, e3⟩ := sms_r e2
      simp only [pas, hst]
      cases ha : zar rin (reg k) 0 with
      | none => exact ⟨S, rfl, hM⟩
      | some z =>
        obtain ⟨n, w⟩ := z
        obtain ⟨ha2, ha3⟩ := sar_ok hcomp (by decide) (by decide) (by decide) ha
        by_cases hx : zin x n = true
        · exact pin_okQ hM e1 hx
        · exfalso
          unfold zst at hz
          simp [zf1, zf2, zoRII, ha2, zoA, zgd, hx, zf4, zf5, zf6, zar, ha3] at hz
    | [], hs => exact ⟨S, by simp only [pas, hst], hM⟩
    | [_], hs => exact ⟨S, by simp only [pas, hst], hM⟩
    | [_, _], hs => exact ⟨S, by simp only [pas, hst], hM⟩
    | .inr _ :: _ :: _ :: _, hs => exact ⟨S, by simp only [pas, hst], hM⟩
    | .inl _ :: .inr _ :: _ :: _, hs => exact ⟨S, by simp only [pas, hst], hM⟩
    | .inl _ :: .inl _ :: .inl _ :: _, hs => exact ⟨S, by simp only [pas, hst], hM⟩
    | .inl _ :: .inl _ :: .inr (.inl _) :: _, hs => exact ⟨S, by simp only [pas, hst], hM⟩
  all_goals exact ⟨S, rfl, hM⟩
theorem sCv_eqQ (hM : sMtQ reg gv ρ ρ0 S loc stk h) {e : sE} {c : Int} (hc : sCv S e = some c) : sv ρ e = c := by
  unfold sCv at hc
  cases h1 : sLb S.2.2.2.1 e with
  | none => rw [h1] at hc; cases hc
  | some a =>
    cases h2 : sUb S.2.2.2.1 e with
    | none => rw [h1, h2] at hc; cases hc
    | some b =>
      rw [h1, h2] at hc
      simp only at hc
      split at hc
      case isFalse => cases hc
      case isTrue hab =>
        cases hc
        have q1 := sLb_le hM.2.2.2.1 h1
        have q2 := sUb_le hM.2.2.2.1 h2
        omega
theorem p255_vQ (hM : sMtQ reg gv ρ ρ0 S loc stk h) {b : sE} (hb : p255 S b = true) : 0 ≤ sv ρ b ∧ sv ρ b ≤ 255 := by
  unfold p255 at hb
  rw [Bool.and_eq_true] at hb
  have p1 := spr_leQ hM hb.1
  have p2 := spr_leQ hM hb.2
  rw [sng_v] at p1
  rw [sac_v] at p2
  omega
theorem pwd_vQ (hM : sMtQ reg gv ρ ρ0 S loc stk h) {e : sE} {j : Nat} {b : sE × sE × sE × sE × sE} (hb : pwd S e j = some b) : (0 ≤ sv ρ b.1 ∧ sv ρ b.1 ≤ 255) ∧ (0 ≤ sv ρ b.2.1 ∧ sv ρ b.2.1 ≤ 255) ∧ (0 ≤ sv ρ b.2.2.1 ∧ sv ρ b.2.2.1 ≤ 255) ∧ (0 ≤ sv ρ b.2.2.2.1 ∧ sv ρ b.2.2.2.1 ≤ 255) ∧ (0 ≤ sv ρ b.2.2.2.2 ∧ sv ρ b.2.2.2.2 ≤ 1) ∧ sv ρ e = sv ρ (pwE b) := by
  unfold pwd at hb
  split at hb
  case h_2 => cases hb
  case h_1 b0 b1 b2 b3 s _ _ _ _ _ =>
    split at hb
    case isFalse => cases hb
    case isTrue hc =>
      cases hb
      simp only [Bool.and_eq_true] at hc
      obtain ⟨c0, c1, c2, c3, c4, c5, c6⟩ := hc
      have s1 := spr_leQ hM c4
      have s2Q := spr_leQ hM c5
      rw [sng_v] at s1
      rw [sac_v] at s2Q
      exact ⟨p255_vQ hM c0, p255_vQ hM c1, p255_vQ hM c2, p255_vQ hM c3, ⟨by show 0 ≤ sv ρ s; omega, by show sv ρ s ≤ 1; omega⟩, peq_vQ hM c6⟩
theorem pbl_okQ (hcomp : ∀ k, rin (reg k) = smT reg (tab k)) (hM : sMtQ reg gv ρ ρ0 S loc stk h) {mid pc : Nat} {i : Instr} {q : zN} {z : Nat × sS} (hp : pbl rin i pc S = some z) (hz : zst tab fld kI kL gst ldS fldS acp mid i pc loc stk h = some q) : q.1 = z.1 ∧ q.2.2.2 = h ∧ sMtQ reg gv ρ ρ0 z.2 q.2.1 q.2.2.1 h := by
  have hs := hM.2.1
  cases i
  case baload =>
    simp only [pbl] at hp
    match hst : S.2.1, hp, hs with
    | .inl e :: .inr (.inr r) :: rest, hp, hs =>
      obtain ⟨x, r1, rfl, e1, e2⟩ := sms_i hs
      obtain ⟨k, r2, rfl, rfl, e3⟩ := sms_r e2
      simp only at hp
      cases hrk : rin (reg k) with
      | inl y => rw [hrk] at hp; cases hp
      | inr y =>
        obtain ⟨t, n, l⟩ := y
        rw [hrk] at hp
        split at hp
        case h_2 => cases hp
        case h_1 heq hco =>
          simp only [Sum.inr.injEq, Prod.mk.injEq] at heq
          obtain ⟨rfl, rfl, rfl⟩ := heq
          have ht := srow hcomp hrk (by omega) (by omega)
          split at hp
          case isFalse => cases hp
          case isTrue hc =>
            simp only [Bool.and_eq_true, decide_eq_true_eq] at hc
            cases hp
            have hx := sCv_eqQ hM hco
            rw [← e1] at hx
            have hcl : x.toNatClampNeg = (x.toInt).toNat := rfl
            by_cases hi : zin x n = true
            · have hq : zst tab fld kI kL gst ldS fldS acp mid .baload pc loc (.inl x :: .inr (.inr k) :: r2) h = some (pc + 1, loc, .inl (Int32.ofNat (l.getD x.toNatClampNeg 0)) :: r2, h) := by
                simp [zst, zf1, zf2, zoRI, ht, zoA, zgd, hi, zf4, zf5, zf6, zar]
              rw [hq] at hz
              cases hz
              refine ⟨rfl, rfl, sMt_stkQ hM ⟨?_, e3⟩⟩
              show (Int32.ofNat (l.getD x.toNatClampNeg 0)).toInt = _
              rw [sK_v, hcl, hx]
              exact so32 (n := ((l.getD _ 0 : Nat) : Int)) (by omega) (by omega)
            · exfalso
              unfold zst at hz
              simp [zf1, zf2, zoRI, ht, zoA, zgd, hi, zf4, zf5, zf6, zar] at hz
  case aaload =>
    simp only [pbl] at hp
    match hst : S.2.1, hp, hs with
    | .inl e :: .inr (.inr r) :: rest, hp, hs =>
      obtain ⟨x, r1, rfl, e1, e2⟩ := sms_i hs
      obtain ⟨k, r2, rfl, rfl, e3⟩ := sms_r e2
      simp only at hp
      cases hco : sCv S e with
      | none => rw [hco] at hp; cases hp
      | some c =>
        rw [hco] at hp
        have hx := sCv_eqQ hM hco
        rw [← e1] at hx
        cases ht : tab k with
        | inl y => obtain ⟨a, b⟩ := y; rw [hcomp k, ht] at hp; cases hp
        | inr y =>
          obtain ⟨t, n, l⟩ := y
          rw [hcomp k, ht] at hp
          simp only [smT] at hp
          by_cases c0 : t = 2 ∨ t = 3
          case neg =>
            rw [decide_eq_false c0, Bool.false_and] at hp
            cases hp
          case pos =>
            have h5 : ¬ t = 5 := by omega
            simp only [if_neg h5, if_pos c0] at hp
            split at hp
            case isFalse => cases hp
            case isTrue hc =>
              simp only [Bool.and_eq_true, decide_eq_true_eq, List.length_map] at hc
              obtain ⟨c1, c2, c3, c4⟩ := hc
              cases hp
              have hi : zin x n = true := decide_eq_true (by omega)
              have hlt : x.toNatClampNeg < l.length := by
                rw [c2]
                show x.toInt.toNat < n
                omega
              have hget : l[x.toNatClampNeg]? = some l[x.toNatClampNeg] := List.getElem?_eq_getElem hlt
              have hq : zst tab fld kI kL gst ldS fldS acp mid .aaload pc loc (.inl x :: .inr (.inr k) :: r2) h = some (pc + 1, loc, .inr (.inr l[x.toNatClampNeg]) :: r2, h) := by
                simp only [zst, zf1, zf2, zoRI, ht, zgd, hi, decide_eq_true c1, hget]
                rfl
              rw [hq] at hz
              cases hz
              refine ⟨rfl, rfl, sMt_stkQ hM ⟨?_, e3⟩⟩
              show reg l[x.toNatClampNeg] = (l.map reg).getD c.toNat 0
              have hcl : x.toNatClampNeg = c.toNat := by show x.toInt.toNat = c.toNat; rw [hx]
              rw [List.getD_eq_getElem?_getD, List.getElem?_map, ← hcl, hget]
              rfl
  case iushr =>
    simp only [pbl] at hp
    match hst : S.2.1, hp, hs with
    | .inl c :: .inl e :: rest, hp, hs =>
      obtain ⟨y, r1, rfl, y1, hs1⟩ := sms_i hs
      obtain ⟨x, r2, rfl, x1, hs2⟩ := sms_i hs1
      simp only at hp
      have hq : zst tab fld kI kL gst ldS fldS acp mid .iushr pc loc (.inl y :: .inl x :: r2) h = some (pc + 1, loc, .inl (zush x y) :: r2, h) := by
        simp [zst, zf1, zf2, zf4, zf5, zf6, zo2]
      rw [hq] at hz
      cases hz
      split at hp
      case h_2 => cases hp
      case h_1 k b hc hb =>
        obtain ⟨j, -, hb⟩ := List.exists_of_findSome?_eq_some hb
        obtain ⟨h0, h1, h2, h3, h4, h5⟩ := pwd_vQ hM hb
        have y2 := y1.trans (sCv_eqQ hM hc)
        rw [← x1, pwE_v] at h5
        by_cases q0 : k = 0
        · rw [if_pos q0] at hp
          cases hp
          refine ⟨rfl, rfl, sMt_stkQ hM ⟨?_, hs2⟩⟩
          show (zush x y).toInt = _
          rw [pwE_v, pWus (k := 0) (y2.trans q0) (by decide) h0 h1 h2 h3 h4 h5, if_pos rfl]
          exact h5
        · rw [if_neg q0] at hp
          by_cases q8 : k = 8
          · rw [if_pos q8] at hp
            cases hp
            refine ⟨rfl, rfl, sMt_stkQ hM ⟨?_, hs2⟩⟩
            show (zush x y).toInt = _
            rw [sadd_v, sadd_v, pWus (k := 8) (y2.trans q8) (by decide) h0 h1 h2 h3 h4 h5, if_neg (by decide), if_pos rfl]
          · rw [if_neg q8] at hp
            by_cases q16 : k = 16
            · rw [if_pos q16] at hp
              cases hp
              refine ⟨rfl, rfl, sMt_stkQ hM ⟨?_, hs2⟩⟩
              show (zush x y).toInt = _
              rw [sadd_v, pWus (k := 16) (y2.trans q16) (by decide) h0 h1 h2 h3 h4 h5, if_neg (by decide), if_neg (by decide), if_pos rfl]
            · rw [if_neg q16] at hp
              by_cases q24 : k = 24
              · rw [if_pos q24] at hp
                cases hp
                refine ⟨rfl, rfl, sMt_stkQ hM ⟨?_, hs2⟩⟩
                show (zush x y).toInt = _
                rw [pWus (k := 24) (y2.trans q24) (by decide) h0 h1 h2 h3 h4 h5, if_neg (by decide), if_neg (by decide), if_neg (by decide)]
              · rw [if_neg q24] at hp
                cases hp
  case ishr =>
    simp only [pbl] at hp
    match hst : S.2.1, hp, hs with
    | .inl c :: .inl e :: rest, hp, hs =>
      obtain ⟨y, r1, rfl, y1, hs1⟩ := sms_i hs
      obtain ⟨x, r2, rfl, x1, hs2⟩ := sms_i hs1
      simp only at hp
      have hq : zst tab fld kI kL gst ldS fldS acp mid .ishr pc loc (.inl y :: .inl x :: r2) h = some (pc + 1, loc, .inl (x >>> (y &&& 31)) :: r2, h) := by
        simp [zst, zf1, zf2, zf4, zf5, zf6, zo2]
      rw [hq] at hz
      cases hz
      split at hp
      case h_2 => cases hp
      case h_1 k b hc hb =>
        obtain ⟨j, -, hb⟩ := List.exists_of_findSome?_eq_some hb
        obtain ⟨h0, h1, h2, h3, h4, h5⟩ := pwd_vQ hM hb
        have y2 := y1.trans (sCv_eqQ hM hc)
        rw [← x1, pwE_v] at h5
        by_cases q0 : k = 0
        · rw [if_pos q0] at hp
          cases hp
          refine ⟨rfl, rfl, sMt_stkQ hM ⟨?_, hs2⟩⟩
          show (x >>> (y &&& 31)).toInt = _
          rw [pwE_v, pWis (k := 0) (y2.trans q0) (by decide) h0 h1 h2 h3 h5, if_pos rfl]
          exact h5
        · rw [if_neg q0] at hp
          by_cases q8 : k = 8
          · rw [if_pos q8] at hp
            cases hp
            refine ⟨rfl, rfl, sMt_stkQ hM ⟨?_, hs2⟩⟩
            show (x >>> (y &&& 31)).toInt = _
            rw [sadd_v, sadd_v, sadd_v, pWis (k := 8) (y2.trans q8) (by decide) h0 h1 h2 h3 h5, if_neg (by decide), if_pos rfl]
            omega
          · rw [if_neg q8] at hp
            by_cases q16 : k = 16
            · rw [if_pos q16] at hp
              cases hp
              refine ⟨rfl, rfl, sMt_stkQ hM ⟨?_, hs2⟩⟩
              show (x >>> (y &&& 31)).toInt = _
              rw [sadd_v, sadd_v, pWis (k := 16) (y2.trans q16) (by decide) h0 h1 h2 h3 h5, if_neg (by decide), if_neg (by decide), if_pos rfl]
              omega
            · rw [if_neg q16] at hp
              by_cases q24 : k = 24
              · rw [if_pos q24] at hp
                cases hp
                refine ⟨rfl, rfl, sMt_stkQ hM ⟨?_, hs2⟩⟩
                show (x >>> (y &&& 31)).toInt = _
                rw [sadd_v, pWis (k := 24) (y2.trans q24) (by decide) h0 h1 h2 h3 h5, if_neg (by decide), if_neg (by decide), if_neg (by decide)]
                omega
              · rw [if_neg q24] at hp
                cases hp
  case irem =>
    simp only [pbl] at hp
    match hst : S.2.1, hp, hs with
    | .inl b :: .inl a :: rest, hp, hs =>
      obtain ⟨y, r1, rfl, y1, hs1⟩ := sms_i hs
      obtain ⟨x, r2, rfl, x1, hs2⟩ := sms_i hs1
      simp only at hp
      split at hp
      case h_2 => cases hp
      case h_1 u v hu hv =>
        split at hp
        case isFalse => cases hp
        case isTrue hc =>
          cases hp
          rw [Bool.and_eq_true, decide_eq_true_eq, decide_eq_true_eq] at hc
          have x2 := x1.trans (sCv_eqQ hM hu)
          have y2 := y1.trans (sCv_eqQ hM hv)
          have hne : ¬ y = 0 := fun e => by
            rw [e] at y2
            have : (0 : Int32).toInt = 0 := by decide
            omega
          have hq : zst tab fld kI kL gst ldS fldS acp mid .irem pc loc (.inl y :: .inl x :: r2) h = some (pc + 1, loc, .inl (x - x / y * y) :: r2, h) := by
            simp [zst, zf1, zf2, zf4, zf5, zf6, zo2, zgd, hne]
          rw [hq] at hz
          cases hz
          refine ⟨rfl, rfl, sMt_stkQ hM ⟨?_, hs2⟩⟩
          show (x - x / y * y).toInt = _
          rw [srem32 x y (by omega) (by omega), x2, y2, sK_v]
  case iand =>
    simp only [pbl] at hp
    match hst : S.2.1, hp, hs with
    | .inl c :: .inl e :: rest, hp, hs =>
      obtain ⟨y, r1, rfl, y1, hs1⟩ := sms_i hs
      obtain ⟨x, r2, rfl, x1, hs2⟩ := sms_i hs1
      simp only at hp
      have hq : zst tab fld kI kL gst ldS fldS acp mid .iand pc loc (.inl y :: .inl x :: r2) h = some (pc + 1, loc, .inl (x &&& y) :: r2, h) := by
        simp [zst, zf1, zf2, zf4, zf5, zf6, zo2]
      rw [hq] at hz
      cases hz
      split at hp
      case isFalse => cases hp
      case isTrue hc =>
        split at hp
        case h_2 => cases hp
        case h_1 m hf =>
          cases hp
          have hm := List.find?_some hf
          simp only [Bool.and_eq_true, decide_eq_true_eq] at hm
          obtain ⟨-, m1, m2⟩ := hm
          have b := p255_vQ hM m1
          have d := pdv_v ρ m2
          rw [sadd_v, ← x1] at d
          have y2 : y = 255 := Int32.toInt_inj.mp ((y1.trans (sCv_eqQ hM hc)).trans (by decide))
          subst y2
          refine ⟨rfl, rfl, sMt_stkQ hM ⟨?_, hs2⟩⟩
          show (x &&& 255).toInt = _
          rw [pAnd255]
          omega
  case i2b =>
    simp only [pbl] at hp
    match hst : S.2.1, hp, hs with
    | .inl e :: rest, hp, hs =>
      obtain ⟨x, r1, rfl, e1, e2⟩ := sms_i hs
      simp only at hp
      split at hp
      case isFalse => cases hp
      case isTrue hc =>
        cases hp
        rw [Bool.and_eq_true] at hc
        have p1 := spr_leQ hM hc.1
        have p2 := spr_leQ hM hc.2
        rw [sac_v, sng_v] at p1
        rw [sac_v] at p2
        have hq : zst tab fld kI kL gst ldS fldS acp mid .i2b pc loc (.inl x :: r1) h = some (pc + 1, loc, .inl x.toInt8.toInt32 :: r1, h) := by
          simp [zst, zf1, zf2, zf4, zf5, zf6, zo1]
        rw [hq] at hz
        cases hz
        refine ⟨rfl, rfl, sMt_stkQ hM ⟨?_, e2⟩⟩
        show (x.toInt8.toInt32).toInt = _
        rw [sac_v, ← e1]
        exact pi2b x (by omega) (by omega)
  all_goals cases hp
theorem pex_okQ (hcomp : ∀ k, rin (reg k) = smT reg (tab k)) (hsing : ∀ k k', sing (reg k) = true → reg k' = reg k → k' = k) (hM : sMtQ reg gv ρ ρ0 S loc stk h) {mid pc : Nat} {i : Instr} {q : zN} {T : sS} {ρ' : Nat → Int} (hz : zst tab fld kI kL gst ldS fldS acp mid i pc loc stk h = some q) (hT : sMtQ reg gv ρ' ρ0 T q.2.1 q.2.2.1 q.2.2.2) : sMtQ reg gv ρ' ρ0 (pexQ rin sing i S T) q.2.1 q.2.2.1 q.2.2.2 := by
  have hs := hM.2.1
  cases i
  case invokestatic idx =>
    simp only [pexQ]
    split
    case h_2 => exact hT
    case h_1 en ed ra es rb rest hst =>
      rw [hst] at hs
      obtain ⟨n, r1, hl1, n1, hs1⟩ := sms_i hs
      obtain ⟨dp, r2, hl2, d1, hs2⟩ := sms_i hs1
      obtain ⟨ka, r3, hl3, hra, hs3⟩ := sms_r hs2
      obtain ⟨sp, r4, hl4, s1, hs4⟩ := sms_i hs3
      obtain ⟨kb, r5, hl5, hrb9, hs5⟩ := sms_r hs4
      subst hl5 hl4 hl3 hl2 hl1 hra hrb9
      split
      case h_3 => exact hT
      case h_1 n0 l hrb =>
        split
        case h_2 => exact hT
        case h_1 s d c hs1 hd1 hc1 =>
          split
          case isFalse => exact hT
          case isTrue hc =>
            simp only [Bool.and_eq_true, decide_eq_true_eq, List.all_eq_true] at hc
            obtain ⟨c1, c2, c3, c4, c5⟩ := hc
            have htb := srow hcomp hrb (by omega) (by omega)
            have hs2 := s1.trans (sCo_v hs1)
            have hd2 := d1.trans (sCo_v hd1)
            have hc2 := n1.trans (sCo_v hc1)
            have hz6 : ∃ n1 : Nat, (0 ≤ sp.toInt ∧ 0 ≤ dp.toInt ∧ 0 ≤ n.toInt ∧ sp.toInt + n.toInt ≤ (n0 : Int) ∧ dp.toInt + n.toInt ≤ (n1 : Int)) ∧ q = (pc + 3, loc, r5, zsr h ka (va_cpy (fun j => Int32.ofNat (l.getD j 0)) (h.1 ka) sp.toNatClampNeg dp.toNatClampNeg n.toNatClampNeg)) := by
              rcases zst_or hz with hz | hz | hz | hz | hz
              · cases hz
              · cases hz
              · cases hz
              · cases hz
              · simp only [zf6, htb] at hz
                unfold zgd at hz
                split at hz
                case isFalse => cases hz
                case isTrue =>
                  split at hz
                  case isFalse => cases hz
                  case isTrue =>
                    unfold zoA at hz
                    cases hza : zar tab ka 0 with
                    | none => rw [hza] at hz; cases hz
                    | some y =>
                      obtain ⟨n9, y9⟩ := y
                      rw [hza] at hz
                      simp only at hz
                      split at hz
                      case isFalse => cases hz
                      case isTrue =>
                        split at hz
                        case isFalse => cases hz
                        case isTrue hb =>
                          refine ⟨n9, of_decide_eq_true hb, ?_⟩
                          rw [if_neg (by decide)] at hz
                          exact (Option.some.inj hz).symm
            obtain ⟨n9, ⟨b1, b2, b3, b4, b5⟩, rfl⟩ := hz6
            obtain ⟨m1, m2, m3, m4, m5, m6⟩ := hT
            refine ⟨m1, m2, ?_, m4, m5, m6⟩
            intro m hm
            rcases List.mem_append.mp hm with hm | hm
            · obtain ⟨j, hj, rfl⟩ := List.mem_map.mp hm
              have hj := List.mem_range.mp hj
              unfold smmQ
              rw [if_pos c2]
              refine ⟨by rw [sK_v]; omega, fun k hk => ?_⟩
              have hk2 := hsing ka k c1 hk
              subst hk2
              simp only [sK_v]
              have e1 : (zsr h k (va_cpy (fun j => Int32.ofNat (l.getD j 0)) (h.1 k) sp.toNatClampNeg dp.toNatClampNeg n.toNatClampNeg)).1 k = va_cpy (fun j => Int32.ofNat (l.getD j 0)) (h.1 k) sp.toNatClampNeg dp.toNatClampNeg n.toNatClampNeg := zsr_row
              rw [e1]
              have nn : n.toNatClampNeg = n.toInt.toNat := rfl
              have nd : dp.toNatClampNeg = dp.toInt.toNat := rfl
              have ns : sp.toNatClampNeg = sp.toInt.toNat := rfl
              rw [pk_cpy_in (by omega) (by omega)]
              rw [show sp.toNatClampNeg + ((d + (j : Int)).toNat - dp.toNatClampNeg) = s.toNat + j by omega]
              have hb : l.getD (s.toNat + j) 0 ≤ 2147483647 := by
                rw [List.getD_eq_getElem?_getD]
                cases hq : l[s.toNat + j]? with
                | none => exact Nat.zero_le _
                | some y => exact c5 y (List.mem_of_getElem? hq)
              exact so32 (n := ((l.getD (s.toNat + j) 0 : Nat) : Int)) (by omega) (by omega)
            · exact m3 m hm
      case h_2 n0 l hrb =>
        split
        case h_2 => exact hT
        case h_1 s d c hs1 hd1 hc1 =>
          split
          case isFalse => exact hT
          case isTrue hc =>
            simp only [Bool.and_eq_true, decide_eq_true_eq, Bool.not_eq_true', decide_eq_false_iff_not] at hc
            obtain ⟨c1, c2, c3, c4, c5, c6⟩ := hc
            have htb := srow hcomp hrb (by omega) (by omega)
            have hs2 := s1.trans (sCo_v hs1)
            have hd2 := d1.trans (sCo_v hd1)
            have hc2 := n1.trans (sCo_v hc1)
            have hne : kb ≠ ka := fun e => c4 (by rw [e])
            have hz6 : ∃ n1 : Nat, (0 ≤ sp.toInt ∧ 0 ≤ dp.toInt ∧ 0 ≤ n.toInt ∧ sp.toInt + n.toInt ≤ (n0 : Int) ∧ dp.toInt + n.toInt ≤ (n1 : Int)) ∧ q = (pc + 3, loc, r5, zsr h ka (va_cpy (h.1 kb) (h.1 ka) sp.toNatClampNeg dp.toNatClampNeg n.toNatClampNeg)) := by
              rcases zst_or hz with hz | hz | hz | hz | hz
              · cases hz
              · cases hz
              · cases hz
              · cases hz
              · simp only [zf6, htb] at hz
                unfold zgd at hz
                split at hz
                case isFalse => cases hz
                case isTrue =>
                  split at hz
                  case isFalse => cases hz
                  case isTrue =>
                    unfold zoA at hz
                    cases hza : zar tab ka 0 with
                    | none => rw [hza] at hz; cases hz
                    | some y =>
                      obtain ⟨n9, y9⟩ := y
                      rw [hza] at hz
                      simp only at hz
                      split at hz
                      case isFalse => cases hz
                      case isTrue =>
                        split at hz
                        case isFalse => cases hz
                        case isTrue hb =>
                          refine ⟨n9, of_decide_eq_true hb, ?_⟩
                          rw [if_pos trivial] at hz
                          exact (Option.some.inj hz).symm
            obtain ⟨n9, ⟨b1, b2, b3, b4, b5⟩, rfl⟩ := hz6
            have hTT := hT
            obtain ⟨m1, m2, m3, m4, m5, m6⟩ := hT
            refine ⟨m1, m2, ?_, m4, m5, m6⟩
            intro m hm
            rcases List.mem_append.mp hm with hm | hm
            · obtain ⟨j, hj, rfl⟩ := List.mem_map.mp hm
              obtain ⟨hj, hjc⟩ := List.mem_filter.mp hj
              unfold qcf at hjc
              simp only [Bool.and_eq_true, decide_eq_true_eq] at hjc
              obtain ⟨j1, j2, j3⟩ := hjc
              have p2 := spr_leQ hTT j2
              have p3 := spr_leQ hTT j3
              rw [sac_v, sng_v] at p2
              rw [sac_v] at p3
              have hmj := m3 j hj
              unfold smmQ at hmj ⊢
              rw [if_pos (by omega)] at hmj
              rw [if_pos c2]
              simp only
              rw [sac_v]
              refine ⟨by omega, fun k hk => ?_⟩
              have hk2 := hsing ka k c1 hk
              subst hk2
              have hv := hmj.2 kb j1.symm
              rw [← hv]
              have e2 : (zsr h k (va_cpy (h.1 kb) (h.1 k) sp.toNatClampNeg dp.toNatClampNeg n.toNatClampNeg)).1 kb = h.1 kb := if_neg hne
              rw [e2]
              have e1 : (zsr h k (va_cpy (h.1 kb) (h.1 k) sp.toNatClampNeg dp.toNatClampNeg n.toNatClampNeg)).1 k = va_cpy (h.1 kb) (h.1 k) sp.toNatClampNeg dp.toNatClampNeg n.toNatClampNeg := zsr_row
              rw [e1]
              have nn : n.toNatClampNeg = n.toInt.toNat := rfl
              have nd : dp.toNatClampNeg = dp.toInt.toNat := rfl
              have ns : sp.toNatClampNeg = sp.toInt.toNat := rfl
              rw [pk_cpy_in (by omega) (by omega), show sp.toNatClampNeg + ((sv ρ' j.2.1 + (d - s)).toNat - dp.toNatClampNeg) = (sv ρ' j.2.1).toNat by omega]
            · exact m3 m hm
  all_goals exact hT
theorem parr_okQ (hsing : ∀ k k', sing (reg k) = true → reg k' = reg k → k' = k) (hcell : ∀ r, sing r = true → ∃ k, reg k = r) (hG : sG reg gG h) {A : sA} (hM : sMtQ reg gv ρ ρ0 S loc stk h) (ha : parrQ sing gG A S = true) : ∃ ρ' ρ0', (∀ j, ρ0' (j + 1) = ρ0 (j + 1)) ∧ sMtQ reg gv ρ' ρ0' (sAs A) loc [] h := by
  unfold parrQ at ha
  cases hs : sar0Q sing gG A S with
  | none => rw [hs] at ha; cases ha
  | some z =>
    obtain ⟨σ, T⟩ := z
    rw [hs] at ha
    simp only [List.all_eq_true] at ha
    obtain ⟨ρ1, m, l1, l2, l3, l4, -⟩ := sar0_okQ hsing hcell hG hM hs
    refine ⟨sval ρ1 σ, fun j => match j with | 0 => sv (sval ρ1 σ) A.2.2.2.2.2 | j + 1 => ρ0 (j + 1), fun j => rfl, l1, trivial, l2, l3, l4, ?_⟩
    intro p hp
    rcases List.mem_cons.mp hp with rfl | hp
    · rfl
    · obtain ⟨y, hy, rfl⟩ := List.mem_map.mp hp
      have hh := ha y hy
      cases hf : T.2.2.2.2.2.find? (fun q => q.1 == y.1 + 1) with
      | none => rw [hf] at hh; cases hh
      | some z =>
        cases he : σ[y.2]? with
        | none => rw [hf, he] at hh; cases hh
        | some e =>
          rw [hf, he] at hh
          have hz := peq_vQ m hh
          have hz0 : z.1 = y.1 + 1 := by have := List.find?_some hf; simpa using this
          have hz1 := m.2.2.2.2.2 z (List.mem_of_find?_eq_some hf)
          rw [hz0] at hz1
          show ρ0 (y.1 + 1) = sv (sval ρ1 σ) (sY y.2)
          rw [sY_v, sval_h y.2 e he]
          omega
/-- what is known at an entry, and what an end of it says -/
theorem psapQ (hgv : sGvQ reg gu gv) (hsing : ∀ k k', sing (reg k) = true → reg k' = reg k → k' = k) (hcell : ∀ r, sing r = true → ∃ k, reg k = r) (hG : sG reg gG h) (hM : sMtQ reg gv ρ ρ0 S loc stk h) {L0 : List (Nat × sV)} {loc0 : zL} (hL0 : ∀ p ∈ L0, ∃ v, zget loc0 p.1 = some v ∧ sm reg ρ v p.2) {na : Nat} {Q : sQ} {L : List sS} {σ : List sE} {T : sS} (c5 : Q.2.1.2.2.2.2.1.all (fun p => p.1 == p.2) = true) (hs0 : sar0Q sing gG Q.2.1 (L0, S.2.1 ++ S.1.map (·.2), S.2.2) = some (σ, T)) {mk : Bool} (hL : sap2Q gu S.1 (S.2.1.drop na) Q.2.2.2.1 σ (pmk mk T) Q.2.2.1 = some L) :
    ∃ ρe ρe0, sMtQ reg gv ρe ρe0 (sAs Q.2.1) loc0 [] h ∧ ∀ r h', sF reg Q.2.2.2.1 h h' → (∃ X ∈ Q.2.2.1, sExQ reg gv Q.2.1.2.1.length X ρe0 r h') → ∃ T ∈ L, ∃ ρ', sMtQ reg gv ρ' ρ0 T loc (r.toList ++ stk.drop na) h' := by
  have hs := hM.2.1
  obtain ⟨lv, lv1, lv2⟩ := slv hM.1
  have hM1 : sMtQ reg gv ρ ρ0 (L0, S.2.1 ++ S.1.map (·.2), S.2.2) loc0 (stk ++ lv) h := ⟨hL0, sms_app hs lv1, hM.2.2⟩
  obtain ⟨ρ1, m1, l1, l2, l3, l4, l5, l6⟩ := sar0_okQ hsing hcell hG hM1 hs0
  have hent : sMtQ reg gv (sval ρ1 σ) (fun j => match j with | 0 => sv (sval ρ1 σ) Q.2.1.2.2.2.2.2 | j + 1 => sval ρ1 σ j) (sAs Q.2.1) loc0 [] h := by
    refine ⟨l1, trivial, l2, l3, l4, ?_⟩
    intro p hp
    rcases List.mem_cons.mp hp with rfl | hp
    · rfl
    · obtain ⟨y, hy, rfl⟩ := List.mem_map.mp hp
      have := eq_of_beq ((List.all_eq_true.mp c5) y hy)
      show sval ρ1 σ y.1 = sv (sval ρ1 σ) (sY y.2)
      rw [sY_v, this]
  refine ⟨_, _, hent, ?_⟩
  intro r h' r3 hx
  obtain ⟨X, hX, ρx, x1, x2, x3, x4, x5⟩ := hx
  obtain ⟨o, o1, o2⟩ := sap2_memQ hL X hX
  unfold sap1Q at o1
  cases hf : sfn X.2.2.1 σ (sklQ gu Q.2.2.2.1 (pmk mk T)) with
  | none => rw [hf] at o1; cases o1
  | some z =>
    obtain ⟨σ', T1⟩ := z
    rw [hf] at o1
    simp only at o1
    have hk := skl_okQ hgv r3 (pmk_okQ mk m1)
    obtain ⟨ρ2, n1, n2, ⟨τ, n3, n4, n5⟩, n6⟩ := sfn_okQ X.2.2.1 σ σ' _ T1 ρ1 (fun k => ρx (Q.2.1.2.1.length + k)) hk hf x2
    have hσ' : ∀ (s : Nat) (f : sE), σ'[s]? = some f → ρx s = sv ρ2 f := by
      intro s f hf
      rw [n3] at hf
      by_cases hlt : s < σ.length
      · rw [List.getElem?_append_left hlt] at hf
        rw [n2 f (List.mem_of_getElem? hf), x1 s (by omega)]
        exact sval_h s f hf
      · rw [List.getElem?_append_right (by omega)] at hf
        have := n5 _ f hf
        rw [this, ← l6]
        congr 1
        omega
    cases hcs : scas σ' X.2.2.2.1 T1 with
    | none => rw [hcs] at o1; cases o1
    | some oo =>
      obtain ⟨T2, t1, t2, t3⟩ := scas_okQ X.2.2.2.1 T1 oo n1 hσ' x3 hcs
      subst t1
      rw [hcs] at o1
      simp only at o1
      cases hsh : shm σ' X.2.1 with
      | none => rw [hsh] at o1; cases o1
      | some ms =>
        cases hsr : srp σ' X.1 with
        | none => rw [hsh, hsr] at o1; cases o1
        | some rv =>
          rw [hsh, hsr] at o1
          cases o1
          refine ⟨_, o2 _ rfl, ρ2, ?_⟩
          have hst : T2.2.1 = S.2.1 ++ S.1.map (·.2) := (t3.trans n6).trans ((pmk_s mk T).trans l5)
          have hss := t2.2.1
          rw [hst] at hss
          obtain ⟨ss1, ss2⟩ := sms_split (sms_len hs) hss
          refine ⟨lv2 ρ2 ss2, sms_app (srp_ok hσ' hsr x5) (sms_drop na ss1), ?_, t2.2.2.2⟩
          intro mm hmm
          rcases List.mem_append.mp hmm with hmm | hmm
          · exact shm_okQ hσ' hsh x4 mm hmm
          · exact t2.2.2.1 mm hmm
theorem pscal0Q (hcomp : ∀ k, rin (reg k) = smT reg (tab k)) (hM : sMtQ reg gv ρ ρ0 S loc stk h) {callee na kc : Nat} {Q : sQ} {L : List sS} {mk : Bool} (hL : psclQ mL rin sing gG gu mk S callee na kc Q = some L) :
    na ≤ stk.length ∧ ((stk.drop na).map zcat).sum ≤ 8 ∧ ((stk.take na).reverse.map zcat).sum ≤ mL callee ∧ (kc = 100 ∨ (kc < 100 ∧ zrcv tab kc (stk.take na).reverse = true)) := by
  unfold psclQ at hL
  split at hL
  case isFalse => cases hL
  case isTrue hc =>
    simp only [Bool.and_eq_true, Bool.or_eq_true, decide_eq_true_eq] at hc
    obtain ⟨c1, c2, c3, c4, c5, c6⟩ := hc
    have hs := hM.2.1
    have hsa := sms_rev (sms_take na hs)
    have hsd := sms_drop na hs
    refine ⟨by rw [sms_len hs]; exact c2, by rw [scat_sum hsd]; exact c3, by rw [scat_sum hsa]; exact c4, ?_⟩
    rcases c6 with c6 | c6
    · exact Or.inl c6
    · refine Or.inr ⟨c6.1, ?_⟩
      exact src0_ok hcomp hsa c6.2
theorem pscalQ (hcomp : ∀ k, rin (reg k) = smT reg (tab k)) (hsing : ∀ k k', sing (reg k) = true → reg k' = reg k → k' = k) (hcell : ∀ r, sing r = true → ∃ k, reg k = r) (hgv : sGvQ reg gu gv) (hG : sG reg gG h) (hM : sMtQ reg gv ρ ρ0 S loc stk h) {callee na kc : Nat} {Q : sQ} {L : List sS} {d : Nat} (hQ : pSumDQ tab pI mL mR fld kI kL gst ldS fldS acp cal reg gG gv d Q) {mk : Bool} (hL : psclQ mL rin sing gG gu mk S callee na kc Q = some L) :
    ∀ m r h', zrun tab pI mL mR fld kI kL gst ldS fldS acp cal m d callee 0 (zent 0 (stk.take na).reverse) [] h = some (r, h') → sG reg gG h' ∧ sF reg Q.2.2.2.1 h h' ∧ ∃ T ∈ L, ∃ ρ', sMtQ reg gv ρ' ρ0 T loc (r.toList ++ stk.drop na) h' := by
  unfold psclQ at hL
  split at hL
  case isFalse => cases hL
  case isTrue hc =>
    simp only [Bool.and_eq_true, Bool.or_eq_true, decide_eq_true_eq] at hc
    obtain ⟨c1, c2, c3, c4, c5, c6⟩ := hc
    have hs := hM.2.1
    have hsa := sms_rev (sms_take na hs)
    cases hs0 : sar0Q sing gG Q.2.1 (sent 0 (S.2.1.take na).reverse, S.2.1 ++ S.1.map (·.2), S.2.2) with
    | none => rw [hs0] at hL; cases hL
    | some z =>
      obtain ⟨σ, T⟩ := z
      rw [hs0] at hL
      simp only at hL
      obtain ⟨ρe, ρe0, m1, m2⟩ := psapQ hgv hsing hcell hG hM (sent_ok hsa) c5 hs0 hL
      intro m r h' hr
      rw [← c1] at hr
      obtain ⟨g1, g2, g3⟩ := hQ _ h _ _ hG m1 m r h' hr
      exact ⟨g1, g2, m2 r h' g2 g3⟩
theorem prl1_okQ (hsing : ∀ k k', sing (reg k) = true → reg k' = reg k → k' = k) (hcell : ∀ r, sing r = true → ∃ k, reg k = r) (hgv : sGvQ reg gu gv) (hG : sG reg gG h) (hM : sMtQ reg gv ρ ρ0 S loc stk h) {Q : sQ} (hQ : pRulQ reg gG gv Q) {L : List sS} {mk : Bool} (hL : prl1Q sing gG gu mk Q S = some L) : ∃ T ∈ L, ∃ ρ', sMtQ reg gv ρ' ρ0 T loc stk h := by
  unfold prl1Q at hL
  split at hL
  case isFalse => cases hL
  case isTrue c5 =>
    cases hs0 : sar0Q sing gG Q.2.1 (S.1, S.2.1 ++ S.1.map (·.2), S.2.2) with
    | none => rw [hs0] at hL; cases hL
    | some z =>
      obtain ⟨σ, T⟩ := z
      rw [hs0] at hL
      simp only at hL
      obtain ⟨ρe, ρe0, m1, m2⟩ := psapQ (na := 0) hgv hsing hcell hG hM hM.1 c5 hs0 hL
      exact m2 none h (fun _ _ hne => absurd rfl hne) (hQ loc h _ _ hG m1)
theorem prl_okQ (hsing : ∀ k k', sing (reg k) = true → reg k' = reg k → k' = k) (hcell : ∀ r, sing r = true → ∃ k, reg k = r) (hgv : sGvQ reg gu gv) (hG : sG reg gG h) (hM : sMtQ reg gv ρ ρ0 S loc stk h) {Q : sQ} (hQ : pRulQ reg gG gv Q) : ∃ T ∈ prlQ sing gG gu Q S, ∃ ρ', sMtQ reg gv ρ' ρ0 T loc stk h := by
  unfold prlQ
  cases hf : (plv S).findSome? (prl1Q sing gG gu (smk S.2.2.2.2.1) Q) with
  | none => exact ⟨S, List.mem_singleton.mpr rfl, ρ, hM⟩
  | some L =>
    obtain ⟨S', hS', hL⟩ := List.exists_of_findSome?_eq_some hf
    exact prm_okQ S (prl1_okQ hsing hcell hgv hG (plv_okQ hM S' hS') hQ hL)
theorem prls_okQ (hsing : ∀ k k', sing (reg k) = true → reg k' = reg k → k' = k) (hcell : ∀ r, sing r = true → ∃ k, reg k = r) (hgv : sGvQ reg gu gv) (hG : sG reg gG h) : ∀ (R : List sQ) {L : List sS}, (∀ Q ∈ R, pRulQ reg gG gv Q) → (∃ T ∈ L, ∃ ρ', sMtQ reg gv ρ' ρ0 T loc stk h) → ∃ T ∈ prlsQ sing gG gu R L, ∃ ρ', sMtQ reg gv ρ' ρ0 T loc stk h
  | [], _, _, hL => hL
  | Q :: R, L, hR, ⟨T, hT, ρ', hM⟩ => by
    unfold prlsQ
    refine prls_okQ hsing hcell hgv hG R (fun Q hQ => hR Q (List.mem_cons_of_mem _ hQ)) ?_
    obtain ⟨T2, hT2, h2⟩ := prl_okQ hsing hcell hgv hG hM (hR Q (List.mem_cons_self ..))
    exact ⟨T2, List.mem_flatMap.mpr ⟨T, hT, hT2⟩, h2⟩
theorem qofn {a : Nat} (h : a < 2147483648) : (Int32.ofNat a).toInt = a := by
  rw [Int32.toInt_ofNat_of_lt h]
theorem qeq {x : Int32} {a : Nat} (h : x.toInt = a) : x = Int32.ofNat a := Int32.toInt_inj.mp (by
  have := Int32.toInt_lt x
  simp at this
  rw [h, qofn (by omega)])
theorem qin_v (hM : sMtQ reg gv ρ ρ0 S loc stk h) {e : sE} {lo hi : Int} (hc : qin S e lo hi = true) : lo ≤ sv ρ e ∧ sv ρ e ≤ hi := by
  unfold qin at hc
  rw [Bool.and_eq_true] at hc
  have p1 := spr_leQ hM hc.1
  have p2 := spr_leQ hM hc.2
  rw [sac_v] at p1
  rw [sac_v, sng_v] at p2
  omega
theorem qov_ok (hM : sMtQ reg gv ρ ρ0 S loc stk h) {mid pc : Nat} {i : Instr} {q : zN} {z : sE × List sV} (hp : qov i S = some z) (hz : zst tab fld kI kL gst ldS fldS acp mid i pc loc stk h = some q) : q.1 = pc + 1 ∧ q.2.2.2 = h ∧ sMtQ reg gv ρ ρ0 (S.1, .inl z.1 :: z.2, S.2.2) q.2.1 q.2.2.1 h := by
  have hs := hM.2.1
  cases i
  case ior =>
    simp only [qov] at hp
    match hst : S.2.1, hp, hs with
    | .inl b :: .inl a :: rest, hp, hs =>
      obtain ⟨y, r1, rfl, y1, hs1⟩ := sms_i hs
      obtain ⟨x, r2, rfl, x1, hs2⟩ := sms_i hs1
      simp only at hp
      have hq : zst tab fld kI kL gst ldS fldS acp mid .ior pc loc (.inl y :: .inl x :: r2) h = some (pc + 1, loc, .inl (x ||| y) :: r2, h) := by
        simp [zst, zf1, zf2, zf4, zf5, zf6, zo2]
      rw [hq] at hz
      cases hz
      split at hp
      case isFalse => cases hp
      case isTrue =>
        split at hp
        case isTrue hb =>
          cases hp
          have hy : y = 0 := Int32.toInt_inj.mp ((y1.trans (sCo_v hb)).trans (by decide))
          subst hy
          refine ⟨rfl, rfl, sMt_stkQ hM ⟨?_, hs2⟩⟩
          show (x ||| 0).toInt = _
          rw [Int32.or_zero]
          exact x1
        case isFalse =>
          split at hp
          case isFalse => cases hp
          case isTrue hc =>
            cases hp
            rw [Bool.and_eq_true, decide_eq_true_eq] at hc
            have hy : y = 1 := Int32.toInt_inj.mp ((y1.trans (sCo_v hc.1)).trans (by decide))
            have hx := qin_v hM hc.2
            subst hy
            refine ⟨rfl, rfl, sMt_stkQ hM ⟨?_, hs2⟩⟩
            show (x ||| 1).toInt = _
            rw [sK_v]
            have : x.toInt = 0 ∨ x.toInt = 1 := by omega
            rcases this with q | q
            · have : x = 0 := Int32.toInt_inj.mp q
              subst this
              decide
            · have : x = 1 := Int32.toInt_inj.mp q
              subst this
              decide
  case irem =>
    simp only [qov] at hp
    match hst : S.2.1, hp, hs with
    | .inl b :: .inl a :: rest, hp, hs =>
      obtain ⟨y, r1, rfl, y1, hs1⟩ := sms_i hs
      obtain ⟨x, r2, rfl, x1, hs2⟩ := sms_i hs1
      simp only at hp
      have main : ∀ v : sE, 1 ≤ y.toInt → 0 ≤ x.toInt → x.toInt % y.toInt = sv ρ v → q.1 = pc + 1 ∧ q.2.2.2 = h ∧ sMtQ reg gv ρ ρ0 (S.1, .inl v :: rest, S.2.2) q.2.1 q.2.2.1 h := by
        intro v h1 h2 h3
        have hne : ¬ y = 0 := fun e => by
          rw [e] at h1
          exact absurd h1 (by decide)
        have hq : zst tab fld kI kL gst ldS fldS acp mid .irem pc loc (.inl y :: .inl x :: r2) h = some (pc + 1, loc, .inl (x - x / y * y) :: r2, h) := by
          simp [zst, zf1, zf2, zf4, zf5, zf6, zo2, zgd, hne]
        rw [hq] at hz
        cases hz
        refine ⟨rfl, rfl, sMt_stkQ hM ⟨?_, hs2⟩⟩
        show (x - x / y * y).toInt = _
        rw [srem32 x y (by omega) (by omega), h3]
      split at hp
      case isFalse => cases hp
      case isTrue =>
        split at hp
        case isTrue hc =>
          cases hp
          simp only [Bool.and_eq_true] at hc
          obtain ⟨c1, c2, c3⟩ := hc
          have p1 := spr_leQ hM c1
          have p2 := spr_leQ hM c2
          have p3 := spr_leQ hM c3
          rw [sac_v, sng_v] at p1
          rw [sng_v] at p2
          rw [sac_v, sadd_v] at p3
          refine main a (by omega) (by omega) ?_
          rw [x1, y1]
          exact Int.emod_eq_of_lt (by omega) (by omega)
        case isFalse =>
          split at hp
          case isFalse => cases hp
          case isTrue hc =>
            cases hp
            simp only [Bool.and_eq_true] at hc
            obtain ⟨c1, c2, c3⟩ := hc
            have p1 := spr_leQ hM c1
            have p2 := spr_leQ hM c2
            have p3 := spr_leQ hM c3
            rw [sac_v, sng_v] at p1
            rw [sadd_v] at p2
            rw [sac_v, sadd_v] at p3
            refine main (sadd a b (-1)) (by omega) (by omega) ?_
            rw [x1, y1, sadd_v]
            rw [← Int.sub_emod_right]
            rw [Int.emod_eq_of_lt (by omega) (by omega)]
            omega
  all_goals cases hp
theorem qot_ok (htb : ∀ x y h, gv 61 x y h → qTab reg h) (hM : sMtQ reg gv ρ ρ0 S loc stk h) {mid pc : Nat} {i : Instr} {q : zN} {z : Nat × sE} (hp : qot i S = some z) (hz : zst tab fld kI kL gst ldS fldS acp mid i pc loc stk h = some q) : ∃ (kg : Nat) (r2 : List zV), reg kg = z.1 ∧ 0 ≤ sv ρ z.2 ∧ q = (pc + 1, loc, .inl (h.1 kg (sv ρ z.2).toNat) :: r2, h) ∧ sms reg ρ r2 (S.2.1.drop 2) ∧ r2 = stk.drop 2 := by
  have hs := hM.2.1
  unfold qot at hp
  split at hp
  case isFalse => cases hp
  case isTrue ht =>
    obtain ⟨m, hm, ht⟩ := List.any_eq_true.mp ht
    have ht := of_decide_eq_true ht
    have hg := hM.2.2.1 m hm
    unfold smmQ at hg
    rw [if_neg (by omega), if_pos (by omega), ht] at hg
    obtain ⟨t0, t1, t2, t3, t4, t5⟩ := htb _ _ _ hg
    have k2 : ∀ {g hb : Nat} {f : Int32 → Int32 → Int32}, qo2 S g hb = some z → qT2 reg h g (hb + 1) f → (∀ x y r, zst tab fld kI kL gst ldS fldS acp mid i pc loc (.inl y :: .inl x :: r) h = some (pc + 1, loc, .inl (f x y) :: r, h)) → ∃ (kg : Nat) (r2 : List zV), reg kg = z.1 ∧ 0 ≤ sv ρ z.2 ∧ q = (pc + 1, loc, .inl (h.1 kg (sv ρ z.2).toNat) :: r2, h) ∧ sms reg ρ r2 (S.2.1.drop 2) ∧ r2 = stk.drop 2 := by
      intro g hb f h2 hT hq
      unfold qo2 at h2
      match hst : S.2.1, h2, hs with
      | .inl b :: .inl a :: rest, h2, hs =>
        obtain ⟨y, r1, rfl, y1, hs1⟩ := sms_i hs
        obtain ⟨x, r2, rfl, x1, hs2⟩ := sms_i hs1
        simp only at h2
        split at h2
        case isTrue => cases h2
        case isFalse =>
          split at h2
          case isFalse => cases h2
          case isTrue hc =>
            cases h2
            rw [Bool.and_eq_true] at hc
            have ha := qin_v hM hc.1
            have hb2 := qin_v hM hc.2
            obtain ⟨kg, g1, g2⟩ := hT
            rw [hq] at hz
            refine ⟨kg, r2, g1, by rw [sadd_v]; omega, ?_, hs2, rfl⟩
            have e := g2 (sv ρ a).toNat (sv ρ b).toNat (by omega) (by omega)
            have ex : x = Int32.ofNat (sv ρ a).toNat := qeq (by rw [x1]; omega)
            have ey : y = Int32.ofNat (sv ρ b).toNat := qeq (by rw [y1]; omega)
            rw [← ex, ← ey] at e
            simp only [sadd_v]
            rw [show (sv ρ a + 64 * sv ρ b).toNat = (sv ρ a).toNat + 64 * (sv ρ b).toNat by omega, e]
            exact (Option.some.inj hz).symm
    have k3 : ∀ {g : Nat} {f : Int32 → Int32 → Int32}, qo3 S g = some z → qT3 reg h g f → (∀ x y r, ¬ y = 0 → zst tab fld kI kL gst ldS fldS acp mid i pc loc (.inl y :: .inl x :: r) h = some (pc + 1, loc, .inl (f x y) :: r, h)) → ∃ (kg : Nat) (r2 : List zV), reg kg = z.1 ∧ 0 ≤ sv ρ z.2 ∧ q = (pc + 1, loc, .inl (h.1 kg (sv ρ z.2).toNat) :: r2, h) ∧ sms reg ρ r2 (S.2.1.drop 2) ∧ r2 = stk.drop 2 := by
      intro g f h2 hT hq
      unfold qo3 at h2
      match hst : S.2.1, h2, hs with
      | .inl b :: .inl a :: rest, h2, hs =>
        obtain ⟨y, r1, rfl, y1, hs1⟩ := sms_i hs
        obtain ⟨x, r2, rfl, x1, hs2⟩ := sms_i hs1
        simp only at h2
        cases hcb : sCo b with
        | none => rw [hcb] at h2; cases h2
        | some c =>
          rw [hcb] at h2
          simp only at h2
          split at h2
          case isFalse => cases h2
          case isTrue hc =>
            cases h2
            simp only [Bool.and_eq_true, decide_eq_true_eq] at hc
            have ha := qin_v hM hc.2.2
            have hy := y1.trans (sCo_v hcb)
            obtain ⟨kg, g1, g2⟩ := hT
            have hne : ¬ y = 0 := fun e => by
              rw [e] at hy
              have : (0 : Int32).toInt = 0 := by decide
              omega
            rw [hq _ _ _ hne] at hz
            refine ⟨kg, r2, g1, by rw [sac_v]; omega, ?_, hs2, rfl⟩
            have e := g2 (sv ρ a).toNat c.toNat (by omega) (by omega) (by omega)
            have ex : x = Int32.ofNat (sv ρ a).toNat := qeq (by rw [x1]; omega)
            have ey : y = Int32.ofNat c.toNat := qeq (by rw [hy]; omega)
            rw [← ex, ← ey] at e
            simp only [sac_v]
            rw [show (sv ρ a + 10000 * c).toNat = (sv ρ a).toNat + 10000 * c.toNat by omega, e]
            exact (Option.some.inj hz).symm
    cases i
    case ior => exact k2 hp t0 (fun x y r => by simp [zst, zf1, zf2, zf4, zf5, zf6, zo2])
    case ishl => exact k2 hp t1 (fun x y r => by simp [zst, zf1, zf2, zf4, zf5, zf6, zo2])
    case ishr => exact k2 hp t2 (fun x y r => by simp [zst, zf1, zf2, zf4, zf5, zf6, zo2])
    case iand => exact k2 hp t3 (fun x y r => by simp [zst, zf1, zf2, zf4, zf5, zf6, zo2])
    case idiv => exact k3 hp t4 (fun x y r hne => by simp [zst, zf1, zf2, zf4, zf5, zf6, zo2, zgd, hne])
    case irem => exact k3 hp t5 (fun x y r hne => by simp [zst, zf1, zf2, zf4, zf5, zf6, zo2, zgd, hne])
    all_goals cases hp
theorem pseg_okQ (hcomp : ∀ k, rin (reg k) = smT reg (tab k)) (hsing : ∀ k k', sing (reg k) = true → reg k' = reg k → k' = k) (hcell : ∀ r, sing r = true → ∃ k, reg k = r) (hr : ∀ k, reg k < 1000) (hgv : sGvQ reg gu gv) {labs : Nat → List sA} {rul : Nat → List sQ} {Qs : List sQ} {md : sD} {n : Nat} {Xs : List sX} {mid d M : Nat} (hQs : ∀ Q ∈ Qs, ∀ d', d' < d → pSumDQ tab pI mL mR fld kI kL gst ldS fldS acp cal reg gG gv d' Q) (hRu : ∀ pc, ∀ q ∈ rul pc, pRulQ reg gG gv q) (htb : ∀ x y h, gv 61 x y h → qTab reg h) {h0 : zH} {rr : Option zV} {hh : zH} :
    ∀ (f m pc : Nat) (first : Bool) (S : sS) (loc : zL) (stk : List zV) (h : zH) (ρ ρ0 : Nat → Int), m ≤ M → (first = false → m < M) → psegQ pI mL mR fld kI kL gst ldS fldS acp cal reg rin sing gG gu labs rul Qs md n Xs mid f pc first S = true → sMtQ reg gv ρ ρ0 S loc stk h → sG reg gG h → sF reg md h0 h →
    (∀ m, m < M → ∀ pc A, A ∈ labs pc → ∀ (loc : zL) (h : zH) (ρ ρ0' : Nat → Int), (∀ j, ρ0' (j + 1) = ρ0 (j + 1)) → sMtQ reg gv ρ ρ0' (sAs A) loc [] h → sG reg gG h → sF reg md h0 h → zrun tab pI mL mR fld kI kL gst ldS fldS acp cal m d mid pc loc [] h = some (rr, hh) → sG reg gG hh ∧ sF reg md h0 hh ∧ ∃ X ∈ Xs, sExQ reg gv n X ρ0 rr hh) →
    zrun tab pI mL mR fld kI kL gst ldS fldS acp cal m d mid pc loc stk h = some (rr, hh) → sG reg gG hh ∧ sF reg md h0 hh ∧ ∃ X ∈ Xs, sExQ reg gv n X ρ0 rr hh
  | 0, _, _, _, _, _, _, _, _, _, _, _, hs, _, _, _, _, _ => by cases hs
  | f + 1, 0, pc, first, S, loc, stk, h, ρ, ρ0, _, _, _, _, _, _, _, e => by cases e
  | f + 1, m + 1, pc, first, S, loc, stk, h, ρ, ρ0, hm, hm1, hs, hM, hG, hF, IH, e => by
    unfold psegQ at hs
    split at hs
    case isTrue hlab =>
      rw [Bool.and_eq_true, List.isEmpty_iff] at hs
      obtain ⟨S', hS', hA0⟩ := List.any_eq_true.mp hs.2
      obtain ⟨A, hA, hA2⟩ := List.any_eq_true.mp hA0
      rw [Bool.and_eq_true] at hA2
      have hA2 := hA2.2
      have hst := hM.2.1
      rw [hs.1] at hst
      have hstk : stk = [] := List.eq_nil_of_length_eq_zero (by have := sms_len hst; simpa using this)
      subst hstk
      have hfi : first = false := by
        rw [Bool.and_eq_true] at hlab
        cases first
        · rfl
        · cases hlab.1
      obtain ⟨ρ', ρ0', a1, a4⟩ := parr_okQ hsing hcell hG (plv_okQ hM S' hS') hA2
      exact IH (m + 1) (hm1 hfi) pc A hA loc h ρ' ρ0' a1 a4 hG hF e
    case isFalse =>
      cases hi : pI mid pc with
      | none => simp only [hi] at hs; cases hs
      | some i =>
        simp only [hi] at hs
        split at hs
        case h_1 hk =>
          obtain ⟨k1, k2⟩ := skd0 (tab := tab) (mL := mL) (mR := mR) (stk := stk) hk
          rw [zrun] at e
          simp only [hi, k1, k2] at e
          cases hzs : zst tab fld kI kL gst ldS fldS acp mid i pc loc stk h with
          | none => simp only [hzs] at e; cases e
          | some q =>
            simp only [hzs] at e
            cases hqv : qov i S with
            | some z =>
              simp only [hqv] at hs
              obtain ⟨b1, b2, b3⟩ := qov_ok hM hqv hzs
              rw [← b1] at hs
              rw [← b2] at b3 hG hF
              obtain ⟨T, hT, ρT, hMT⟩ := prls_okQ hsing hcell hgv hG (rul q.1) (hRu q.1) ⟨_, List.mem_singleton.mpr rfl, ρ, b3⟩
              exact pseg_okQ hcomp hsing hcell hr hgv hQs hRu htb f m q.1 false T q.2.1 q.2.2.1 q.2.2.2 ρT ρ0 (by omega) (fun _ => by omega) ((List.all_eq_true.mp hs) T hT) hMT hG hF IH e
            | none =>
            simp only [hqv] at hs
            cases hqt : qot i S with
            | some z =>
              simp only [hqt] at hs
              obtain ⟨kg, r2, b1, b2, b3, b4, b5⟩ := qot_ok htb hM hqt hzs
              subst b3
              cases hld : sldEQ sing gG S z.1 z.2 [] with
              | none => simp only [hld] at hs; cases hs
              | some y =>
                obtain ⟨v, T0⟩ := y
                simp only [hld] at hs
                have hkg := hr kg
                rw [← b1] at hld
                obtain ⟨ρ', m1, m2, m3, m4, m5⟩ := sldE_okQ hsing hG hM hkg b2 hld
                have hM2 : sMtQ reg gv ρ' ρ0 (T0.1, .inl v :: T0.2.1.drop 2, T0.2.2) loc (.inl (h.1 kg (sv ρ z.2).toNat) :: r2) h := by
                  refine ⟨m1.1, ⟨m2, ?_⟩, m1.2.2⟩
                  rw [b5]
                  exact sms_drop 2 m1.2.1
                obtain ⟨T, hT, ρT, hMT⟩ := prls_okQ hsing hcell hgv hG (rul (pc + 1)) (hRu (pc + 1)) ⟨_, List.mem_singleton.mpr rfl, ρ', hM2⟩
                exact pseg_okQ hcomp hsing hcell hr hgv hQs hRu htb f m (pc + 1) false T loc _ h ρT ρ0 (by omega) (fun _ => by omega) ((List.all_eq_true.mp hs) T hT) hMT hG hF IH e
            | none =>
            simp only [hqt] at hs
            cases hpb : pbl rin i pc S with
            | some z =>
              simp only [hpb] at hs
              obtain ⟨b1, b2, b3⟩ := pbl_okQ hcomp hM hpb hzs
              rw [← b1] at hs
              rw [← b2] at b3 hG hF
              obtain ⟨T, hT, ρT, hMT⟩ := prls_okQ hsing hcell hgv hG (rul q.1) (hRu q.1) ⟨z.2, List.mem_singleton.mpr rfl, ρ, b3⟩
              exact pseg_okQ hcomp hsing hcell hr hgv hQs hRu htb f m q.1 false T q.2.1 q.2.2.1 q.2.2.2 ρT ρ0 (by omega) (fun _ => by omega) ((List.all_eq_true.mp hs) T hT) hMT hG hF IH e
            | none =>
            simp only [hpb] at hs
            obtain ⟨S1, p1, p2⟩ := pas_okQ hcomp hM hzs
            simp only [p1] at hs
            cases hst : sstpQ fld kI kL gst ldS fldS acp reg rin sing gG gu mid md i pc S1 with
            | none => simp only [hst] at hs; cases hs
            | some L =>
              simp only [hst] at hs
              obtain ⟨q', q1, q2, q3, z, hz, ρ', q4, q5⟩ := sstp_okQ hcomp hsing hr hgv hG hF p2 hst
              rw [hzs] at q1
              cases q1
              have hz2 := (List.all_eq_true.mp hs) z hz
              rw [← q4] at hz2
              obtain ⟨T, hT, ρT, hMT⟩ := prls_okQ hsing hcell hgv q2 (rul q.1) (hRu q.1) ⟨pexQ rin sing i S1 z.2, List.mem_singleton.mpr rfl, ρ', pex_okQ hcomp hsing p2 hzs q5⟩
              exact pseg_okQ hcomp hsing hcell hr hgv hQs hRu htb f m q.1 false T q.2.1 q.2.2.1 q.2.2.2 ρT ρ0 (by omega) (fun _ => by omega) ((List.all_eq_true.mp hz2) T hT) hMT q2 q3 IH e
        case h_2 hk =>
          cases hc : scl cal mid i with
          | none => simp only [hc] at hs; cases hs
          | some z =>
            simp only [hc] at hs
            cases hfs : (plv S).findSome? (fun S' => Qs.findSome? (fun Q => if (decide (Q.1 = z.1) && (smo md Q.2.2.2.1 && pq0Q (sent 0 (S'.2.1.take z.2.1).reverse, [], S'.2.2) Q.2.1.2.1 Q.2.1.2.2.1)) = true then psclQ mL rin sing gG gu (smk S.2.2.2.2.1) S' z.1 z.2.1 z.2.2 Q else none)) with
            | none => simp only [hfs] at hs; cases hs
            | some L =>
              simp only [hfs] at hs
              obtain ⟨S', hS', hQ0⟩ := List.exists_of_findSome?_eq_some hfs
              have hMS := plv_okQ hM S' hS'
              obtain ⟨Q, hQ, hQ2⟩ := List.exists_of_findSome?_eq_some hQ0
              split at hQ2
              case isFalse => cases hQ2
              case isTrue hmo =>
                rw [Bool.and_eq_true, Bool.and_eq_true] at hmo
                have hmo := hmo.2.1
                obtain ⟨p1, p2, p3, p4⟩ := pscal0Q hcomp hMS hQ2
                have hcl : zcl tab mL cal mid i stk = some (z.1, (stk.take z.2.1).reverse, stk.drop z.2.1) := by
                  cases i
                  case invokevirtual idx =>
                    simp only [scl] at hc
                    cases hca : cal mid idx with
                    | none => simp only [hca] at hc; cases hc
                    | some y =>
                      simp only [hca] at hc
                      split at hc
                      case isFalse => cases hc
                      case isTrue hlt =>
                        cases hc
                        obtain ⟨callee, na, kc⟩ := z
                        simp only [zcl, hca]
                        rw [if_pos]
                        simp only [Bool.and_eq_true, decide_eq_true_eq]
                        simp only at p1 p2 p3 p4 hlt
                        rcases p4 with p4 | p4
                        · omega
                        · exact ⟨⟨⟨⟨hlt, p1⟩, p2⟩, p3⟩, p4.2⟩
                  case invokestatic idx =>
                    simp only [scl] at hc
                    cases hca : cal mid idx with
                    | none => simp only [hca] at hc; cases hc
                    | some y =>
                      simp only [hca] at hc
                      split at hc
                      case isFalse => cases hc
                      case isTrue hlt =>
                        cases hc
                        obtain ⟨callee, na, kc⟩ := z
                        simp only [zcl, hca]
                        rw [if_pos]
                        simp only [Bool.and_eq_true, decide_eq_true_eq]
                        exact ⟨⟨⟨hlt, p1⟩, p2⟩, p3⟩
                  all_goals cases hc
                rw [zrun] at e
                simp only [hi, hcl] at e
                cases d with
                | zero => cases e
                | succ d' =>
                  simp only at e
                  cases hrun : zrun tab pI mL mR fld kI kL gst ldS fldS acp cal m d' z.1 0 (zent 0 (stk.take z.2.1).reverse) [] h with
                  | none => simp only [hrun] at e; cases e
                  | some y =>
                    obtain ⟨r1, h1⟩ := y
                    simp only [hrun] at e
                    obtain ⟨u2, u3, u5⟩ := pscalQ hcomp hsing hcell hgv hG hMS (hQs Q hQ d' (by omega)) hQ2 m r1 h1 hrun
                    obtain ⟨T, hT, ρ', u4⟩ := prm_okQ S u5
                    have hT2 := (List.all_eq_true.mp hs) T hT
                    obtain ⟨T', hT', ρT, hMT⟩ := prls_okQ hsing hcell hgv u2 (rul (pc + 3)) (hRu (pc + 3)) ⟨T, List.mem_singleton.mpr rfl, ρ', u4⟩
                    exact pseg_okQ hcomp hsing hcell hr hgv hQs hRu htb f m (pc + 3) false T' loc (r1.toList ++ stk.drop z.2.1) h1 ρT ρ0 (by omega) (fun _ => by omega) ((List.all_eq_true.mp hT2) T' hT') hMT u2 (smo_ok hmo hF u3) IH e
        case h_3 =>
          rw [Bool.and_eq_true] at hs
          obtain ⟨S', hS', hX0⟩ := List.any_eq_true.mp hs.2
          have hse : S'.2.1 = S.2.1 := plv_st S S' hS'
          obtain ⟨X, hX, hX2⟩ := List.any_eq_true.mp hX0
          obtain ⟨x1, x2⟩ := pxr_okQ hsing hcell hG (plv_okQ hM S' hS') hX2
          rw [hse] at x2
          have hrk := hs.1
          have hze : zcl tab mL cal mid i stk = none ∧ zend (mR mid) i stk = some stk.head? := by
            rcases srk_el hrk with ⟨rfl, hret, e, hst⟩ | ⟨rfl, hret, e, hst, hq⟩ | ⟨rfl, hret, e, hst, hq⟩ | ⟨rfl, hret, e, hst⟩ | ⟨rfl, hret, hst⟩
            · rcases x2 with ⟨x, e', rfl, q1, q2⟩ | ⟨y, e', rfl, q1⟩ | ⟨rfl, q1⟩
              · exact ⟨rfl, by rw [hret]; rfl⟩
              · rw [q1] at hst; cases hst
              · rw [q1] at hst; cases hst
            · rcases x2 with ⟨x, e', rfl, q1, q2⟩ | ⟨y, e', rfl, q1⟩ | ⟨rfl, q1⟩
              · rw [q1] at hst
                cases hst
                have := sb01_okQ hM hq q2
                refine ⟨rfl, ?_⟩
                rw [hret]
                show (if x = 0 ∨ x = 1 then _ else _) = _
                rw [if_pos this]
                rfl
              · rw [q1] at hst; cases hst
              · rw [q1] at hst; cases hst
            · rcases x2 with ⟨x, e', rfl, q1, q2⟩ | ⟨y, e', rfl, q1⟩ | ⟨rfl, q1⟩
              · rw [q1] at hst
                cases hst
                rw [Bool.and_eq_true] at hq
                have p1 := spr_leQ hM hq.1
                have p2 := spr_leQ hM hq.2
                rw [sng_v] at p2
                have : x = 0 := Int32.toInt_inj.mp (by rw [q2]; show _ = (0 : Int); omega)
                refine ⟨rfl, ?_⟩
                rw [hret]
                show (if x = 0 then _ else _) = _
                rw [if_pos this]
                rfl
              · rw [q1] at hst; cases hst
              · rw [q1] at hst; cases hst
            · rcases x2 with ⟨x, e', rfl, q1, q2⟩ | ⟨y, e', rfl, q1⟩ | ⟨rfl, q1⟩
              · rw [q1] at hst; cases hst
              · exact ⟨rfl, by rw [hret]; rfl⟩
              · rw [q1] at hst; cases hst
            · rcases x2 with ⟨x, e', rfl, q1, q2⟩ | ⟨y, e', rfl, q1⟩ | ⟨rfl, q1⟩
              · rw [q1] at hst; cases hst
              · rw [q1] at hst; cases hst
              · exact ⟨rfl, by rw [hret]; rfl⟩
          rw [zrun] at e
          simp only [hi, hze.1, hze.2] at e
          cases e
          exact ⟨hG, hF, X, hX, x1⟩
theorem pmethDQ (hcomp : ∀ k, rin (reg k) = smT reg (tab k)) (hsing : ∀ k k', sing (reg k) = true → reg k' = reg k → k' = k) (hcell : ∀ r, sing r = true → ∃ k, reg k = r) (hr : ∀ k, reg k < 1000) (hgv : sGvQ reg gu gv) {labs : Nat → List sA} {rul : Nat → List sQ} {Qs Rs : List sQ} {Q : sQ} {d : Nat} (hQs : ∀ Q ∈ Qs, ∀ d', d' < d → pSumDQ tab pI mL mR fld kI kL gst ldS fldS acp cal reg gG gv d' Q) (hRs : ∀ R ∈ Rs, pRulQ reg gG gv R) (hRu : ∀ pc, ∀ q ∈ rul pc, q ∈ Rs) (htb : ∀ x y h, gv 61 x y h → qTab reg h) {F : Nat} (h0 : Q.2.1 ∈ labs 0)
    (hl : ∀ pc A, A ∈ labs pc → ∃ (sp : List (sE × List Int)) (R : List sQ), (∀ q ∈ R, q ∈ Rs) ∧ ∀ S ∈ prlsQ sing gG gu R (ssps sp [sAs A]), psegQ pI mL mR fld kI kL gst ldS fldS acp cal reg rin sing gG gu labs rul Qs Q.2.2.2.1 Q.2.1.2.1.length Q.2.2.1 Q.1 F pc true S = true) : pSumDQ tab pI mL mR fld kI kL gst ldS fldS acp cal reg gG gv d Q := by
  intro args h ρ ρ0 hG hM m rr hh hrun
  have key : ∀ (M m : Nat), m ≤ M → ∀ (pc : Nat) (A : sA), A ∈ labs pc → ∀ (loc : zL) (h1 : zH) (ρ ρ0 : Nat → Int), sMtQ reg gv ρ ρ0 (sAs A) loc [] h1 → sG reg gG h1 → sF reg Q.2.2.2.1 h h1 → zrun tab pI mL mR fld kI kL gst ldS fldS acp cal m d Q.1 pc loc [] h1 = some (rr, hh) → sG reg gG hh ∧ sF reg Q.2.2.2.1 h hh ∧ ∃ X ∈ Q.2.2.1, sExQ reg gv Q.2.1.2.1.length X ρ0 rr hh := by
    intro M
    induction M with
    | zero =>
      intro m hm pc A hA loc h1 ρ ρ0 hM hG hF e
      obtain rfl : m = 0 := by omega
      cases e
    | succ M ih =>
      intro m hm pc A hA loc h1 ρ ρ0 hM hG hF e
      obtain ⟨sp, R, hR, hsp⟩ := hl pc A hA
      obtain ⟨T0, hT0, hMT0⟩ := ssps_okQ sp ⟨_, List.mem_singleton.mpr rfl, hM⟩
      obtain ⟨T, hT, ρ', hMT⟩ := prls_okQ hsing hcell hgv hG R (fun q hq => hRs q (hR q hq)) ⟨T0, hT0, ρ, hMT0⟩
      refine pseg_okQ hcomp hsing hcell hr hgv hQs (fun pc q hq => hRs q (hRu pc q hq)) htb (M := m) F m pc true T loc [] h1 ρ' ρ0 (Nat.le_refl _) (fun hf => by cases hf) (hsp T hT) hMT hG hF ?_ e
      intro m2 hm2 pc2 A2 hA2 loc2 h2 ρ2 ρ0' e1 hM2 hG2 hF2 er
      obtain ⟨r2, r3, X, hX, r4⟩ := ih m2 (by omega) pc2 A2 hA2 loc2 h2 ρ2 ρ0' hM2 hG2 hF2 er
      exact ⟨r2, r3, X, hX, sEx_congrQ e1 r4⟩
  exact key m m (Nat.le_refl _) 0 Q.2.1 h0 (zent 0 args) h ρ ρ0 hM hG (fun _ _ hne => absurd rfl hne) hrun
/-- a group of methods that call one another: by the calls' depth -/
theorem pgroupQ {Qg : List sQ} (hstep : ∀ Q ∈ Qg, ∀ d, (∀ P ∈ Qg, ∀ d', d' < d → pSumDQ tab pI mL mR fld kI kL gst ldS fldS acp cal reg gG gv d' P) → pSumDQ tab pI mL mR fld kI kL gst ldS fldS acp cal reg gG gv d Q) : ∀ Q ∈ Qg, pSumQ tab pI mL mR fld kI kL gst ldS fldS acp cal reg gG gv Q := by
  have key : ∀ d, ∀ d', d' < d → ∀ Q ∈ Qg, pSumDQ tab pI mL mR fld kI kL gst ldS fldS acp cal reg gG gv d' Q := by
    intro d
    induction d with
    | zero => intro d' h; omega
    | succ d ih =>
      intro d' hd Q hQ
      exact hstep Q hQ d' (fun P hP d2 h2 => ih d2 (by omega) P hP)
  exact fun Q hQ d => key (d + 1) d (by omega) Q hQ
end PSEGO
