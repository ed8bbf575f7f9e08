/-! a step on expressions: all that touches neither places nor methods -/
noncomputable def sgl (S : sS) (k : Nat) : Option sV := (S.1.find? (fun p => p.1 == k)).map (·.2)
noncomputable def slg : sV → Bool
  | .inr (.inl _) => true
  | _ => false
noncomputable def spt1 (S : sS) (k : Nat) (v : sV) : List (Nat × sV) := (k, v) :: S.1.filter (fun p => !(p.1 == k) && !(p.1 + 1 == k && slg p.2))
noncomputable def spt2 (S : sS) (k : Nat) (v : sV) : List (Nat × sV) := (k, v) :: S.1.filter (fun p => !(p.1 == k) && (!(p.1 == k + 1) && !(p.1 + 1 == k && slg p.2)))
noncomputable def sli (S : sS) (k n : Nat) : Option (List (Nat × sS)) := match sgl S k with
  | some (.inl e) => some [(n, (S.1, .inl e :: S.2.1, S.2.2))]
  | _ => none
noncomputable def sll (S : sS) (k n : Nat) : Option (List (Nat × sS)) := match sgl S k with
  | some (.inr (.inl e)) => some [(n, (S.1, .inr (.inl e) :: S.2.1, S.2.2))]
  | _ => none
noncomputable def slr (S : sS) (k n : Nat) : Option (List (Nat × sS)) := match sgl S k with
  | some (.inr (.inr e)) => some [(n, (S.1, .inr (.inr e) :: S.2.1, S.2.2))]
  | _ => none
noncomputable def ssi (S : sS) (k n : Nat) : Option (List (Nat × sS)) := match S.2.1 with
  | .inl e :: r => some [(n, (spt1 S k (.inl e), r, S.2.2))]
  | _ => none
noncomputable def ssr (S : sS) (k n : Nat) : Option (List (Nat × sS)) := match S.2.1 with
  | .inr (.inr e) :: r => some [(n, (spt1 S k (.inr (.inr e)), r, S.2.2))]
  | _ => none
noncomputable def ssl (S : sS) (k n : Nat) : Option (List (Nat × sS)) := match S.2.1 with
  | .inr (.inl e) :: r => some [(n, (spt2 S k (.inr (.inl e)), r, S.2.2))]
  | _ => none
noncomputable def sbr (S : sS) (c : ClassFile.Cond) (d : sE) (t n : Nat) : List (Nat × sS) := ((scnd c S d).toList.map (fun T => (t, T))) ++ ((scnd (scn c) S d).toList.map (fun T => (n, T)))
noncomputable def s1 (i : Instr) (pc : Nat) (S : sS) : Option (List (Nat × sS)) := match i with
  | .iconst n => if -2147483648 ≤ n ∧ n ≤ 2147483647 then some [(pc + 1, (S.1, .inl (sK n) :: S.2.1, S.2.2))] else none
  | .bipush n => if -128 ≤ n ∧ n ≤ 127 then some [(pc + 2, (S.1, .inl (sK n) :: S.2.1, S.2.2))] else none
  | .sipush n => if -32768 ≤ n ∧ n ≤ 32767 then some [(pc + 3, (S.1, .inl (sK n) :: S.2.1, S.2.2))] else none
  | .lconst n => if n.val ≤ 1 then some [(pc + 1, (S.1, .inr (.inl (sK n.val)) :: S.2.1, S.2.2))] else none
  | .iload_n k => sli S k.val (pc + 1)
  | .iload k => sli S k (pc + 2)
  | .lload_n k => sll S k.val (pc + 1)
  | .lload k => sll S k (pc + 2)
  | .aload_n k => slr S k.val (pc + 1)
  | .aload k => slr S k (pc + 2)
  | .ineg => (match S.2.1 with
    | .inl x :: _ => spu 1 (pc + 1) (swr S (sng x))
    | _ => none)
  | .i2l => (match S.2.1 with
    | .inl x :: r => some [(pc + 1, (S.1, .inr (.inl x) :: r, S.2.2))]
    | _ => none)
  | .l2i => (match S.2.1 with
    | .inr (.inl x) :: _ => spu 1 (pc + 1) (swr S x)
    | _ => none)
  | .i2c => (match S.2.1 with
    | .inl x :: _ => spu 1 (pc + 1) (srg S x 0 65535)
    | _ => none)
  | .dup => (match S.2.1 with
    | v :: r => if slg v = true then none else some [(pc + 1, (S.1, v :: v :: r, S.2.2))]
    | _ => none)
  | .pop => (match S.2.1 with
    | v :: r => if slg v = true then none else some [(pc + 1, (S.1, r, S.2.2))]
    | _ => none)
  | .dup2 => (match S.2.1 with
    | v :: w :: r => if (slg v || slg w) = true then none else some [(pc + 1, (S.1, v :: w :: v :: w :: r, S.2.2))]
    | _ => none)
  | .goto off => if 0 ≤ (pc : Int) + off then some [(ztgt pc off, S)] else none
  | .ifCond c off => (match S.2.1 with
    | .inl x :: r => if 0 ≤ (pc : Int) + off then some (sbr (S.1, r, S.2.2) c x (ztgt pc off) (pc + 3)) else none
    | _ => none)
  | .if_icmp c off => (match S.2.1 with
    | .inl y :: .inl x :: r => if 0 ≤ (pc : Int) + off then some (sbr (S.1, r, S.2.2) c (sadd x y (-1)) (ztgt pc off) (pc + 3)) else none
    | _ => none)
  | .istore_n k => ssi S k.val (pc + 1)
  | .istore k => ssi S k (pc + 2)
  | .astore_n k => ssr S k.val (pc + 1)
  | .astore k => ssr S k (pc + 2)
  | .lstore_n k => ssl S k.val (pc + 1)
  | .lstore k => ssl S k (pc + 2)
  | .iinc k n => (match sgl S k with
    | some (.inl e) => if -2147483648 ≤ n ∧ n ≤ 2147483647 then (match swr S (sac e n) with
      | some (v, T) => some [(pc + 3, (spt1 T k (.inl v), T.2.1, T.2.2))]
      | none => none) else none
    | _ => none)
  | i => (match S.2.1 with
    | .inl y :: .inl x :: _ => spu 2 (pc + 1) (so2 i S x y)
    | .inr (.inl y) :: .inr (.inl x) :: _ => spl 2 (pc + 1) (so2L i S x y)
    | _ => none)
section S1OK2
variable {reg : Nat → Nat} {gv : Nat → zH → Int} {ρ ρ0 : Nat → Int} {S T : sS} {loc : zL} {stk : List zV} {h : zH} {e : sE}
theorem zget_put1 {loc : zL} {k : Nat} {v : zV} : zget (zput1 loc k v) k = some v := by
  unfold zget zput1
  rw [List.find?_cons_of_pos (by simp)]
  rfl
theorem zget_put2 {loc : zL} {k : Nat} {v : zV} : zget (zput2 loc k v) k = some v := by
  unfold zget zput2
  rw [List.find?_cons_of_pos (by simp)]
  rfl
theorem zfind_f {f : Nat × zV → Bool} {j : Nat} {w : zV} : ∀ {loc : zL}, zget loc j = some w → f (j, w) = true → (loc.filter f).find? (fun q => q.1 == j) = some (j, w)
  | [], e, _ => by cases e
  | q :: l, e, hf => by
    by_cases hq : q.1 = j
    · have : zget (q :: l) j = some q.2 := by
        unfold zget
        rw [List.find?_cons_of_pos (by simp [hq])]
        rfl
      rw [this] at e
      have e2 : q = (j, w) := by
        cases e
        rw [← hq]
      rw [e2, List.filter_cons_of_pos hf, List.find?_cons_of_pos (by simp)]
    · have e2 : zget l j = some w := by
        unfold zget at e ⊢
        rw [List.find?_cons_of_neg (by simp [hq])] at e
        exact e
      have ih := zfind_f e2 hf
      by_cases hfq : f q = true
      · rw [List.filter_cons_of_pos hfq, List.find?_cons_of_neg (by simp [hq])]
        exact ih
      · rw [List.filter_cons_of_neg hfq]
        exact ih
theorem zget_put1o {loc : zL} {k j : Nat} {v w : zV} (e : zget loc j = some w) (hj : j ≠ k) (hc : ¬ (j + 1 = k ∧ zcat w = 2)) : zget (zput1 loc k v) j = some w := by
  unfold zget zput1
  rw [List.find?_cons_of_neg (by simp; exact fun q => hj q.symm), zfind_f e]
  · rfl
  · simp only [Bool.and_eq_true, Bool.not_eq_true', beq_eq_false_iff_ne, ne_eq, Bool.and_eq_false_iff]
    refine ⟨hj, ?_⟩
    by_cases h1 : j + 1 = k
    · exact Or.inr (fun q => hc ⟨h1, q⟩)
    · exact Or.inl h1
theorem zget_put2o {loc : zL} {k j : Nat} {v w : zV} (e : zget loc j = some w) (hj : j ≠ k) (hj2 : j ≠ k + 1) (hc : ¬ (j + 1 = k ∧ zcat w = 2)) : zget (zput2 loc k v) j = some w := by
  unfold zget zput2
  rw [List.find?_cons_of_neg (by simp; exact fun q => hj q.symm), zfind_f e]
  · rfl
  · simp only [Bool.and_eq_true, Bool.not_eq_true', beq_eq_false_iff_ne, ne_eq, Bool.and_eq_false_iff]
    refine ⟨hj, hj2, ?_⟩
    by_cases h1 : j + 1 = k
    · exact Or.inr (fun q => hc ⟨h1, q⟩)
    · exact Or.inl h1
theorem sm_cat {v : zV} {s : sV} (hm : sm reg ρ v s) : (slg s = true ↔ zcat v = 2) ∧ (slg s = false ↔ zcat v = 1) := by
  match v, s, hm with
  | .inl _, .inl _, _ => exact ⟨⟨(fun q => (by cases q)), (fun q => (by cases q))⟩, ⟨fun _ => rfl, fun _ => rfl⟩⟩
  | .inr (.inl _), .inr (.inl _), _ => exact ⟨⟨fun _ => rfl, fun _ => rfl⟩, ⟨(fun q => (by cases q)), (fun q => (by cases q))⟩⟩
  | .inr (.inr _), .inr (.inr _), _ => exact ⟨⟨(fun q => (by cases q)), (fun q => (by cases q))⟩, ⟨fun _ => rfl, fun _ => rfl⟩⟩
theorem spt1_ok {k : Nat} {v : zV} {s : sV} (hl : ∀ p ∈ S.1, ∃ v, zget loc p.1 = some v ∧ sm reg ρ v p.2) (hv : sm reg ρ v s) : ∀ p ∈ spt1 S k s, ∃ w, zget (zput1 loc k v) p.1 = some w ∧ sm reg ρ w p.2 := by
  intro p hp
  unfold spt1 at hp
  rcases List.mem_cons.mp hp with rfl | hp
  · exact ⟨v, zget_put1, hv⟩
  · obtain ⟨hp, hf⟩ := List.mem_filter.mp hp
    obtain ⟨w, e1, e2⟩ := hl p hp
    simp only [Bool.and_eq_true, Bool.not_eq_true', beq_eq_false_iff_ne, ne_eq, Bool.and_eq_false_iff] at hf
    refine ⟨w, zget_put1o e1 hf.1 (fun q => ?_), e2⟩
    rcases hf.2 with f | f
    · exact f q.1
    · rw [(sm_cat e2).1.mpr q.2] at f
      cases f
theorem spt2_ok {k : Nat} {v : zV} {s : sV} (hl : ∀ p ∈ S.1, ∃ v, zget loc p.1 = some v ∧ sm reg ρ v p.2) (hv : sm reg ρ v s) : ∀ p ∈ spt2 S k s, ∃ w, zget (zput2 loc k v) p.1 = some w ∧ sm reg ρ w p.2 := by
  intro p hp
  unfold spt2 at hp
  rcases List.mem_cons.mp hp with rfl | hp
  · exact ⟨v, zget_put2, hv⟩
  · obtain ⟨hp, hf⟩ := List.mem_filter.mp hp
    obtain ⟨w, e1, e2⟩ := hl p hp
    simp only [Bool.and_eq_true, Bool.not_eq_true', beq_eq_false_iff_ne, ne_eq, Bool.and_eq_false_iff] at hf
    refine ⟨w, zget_put2o e1 hf.1 hf.2.1 (fun q => ?_), e2⟩
    rcases hf.2.2 with f | f
    · exact f q.1
    · rw [(sm_cat e2).1.mpr q.2] at f
      cases f
theorem sgl_ok {k : Nat} {s : sV} (hM : sMt reg gv ρ ρ0 S loc stk h) (e : sgl S k = some s) : ∃ v, zget loc k = some v ∧ sm reg ρ v s := by
  unfold sgl at e
  cases hf : S.1.find? (fun p => p.1 == k) with
  | none => rw [hf] at e; cases e
  | some p =>
    rw [hf] at e
    cases e
    have h1 : p.1 = k := by have := List.find?_some hf; simpa using this
    obtain ⟨v, e1, e2⟩ := hM.1 p (List.mem_of_find?_eq_some hf)
    rw [h1] at e1
    exact ⟨v, e1, e2⟩
theorem sbr_ok {c : ClassFile.Cond} {d : sE} {t n : Nat} (hM : sMt reg gv ρ ρ0 S loc stk h) : (scT c (sv ρ d) → sgo reg gv ρ0 (sbr S c d t n) (t, loc, stk, h)) ∧ (¬ scT c (sv ρ d) → sgo reg gv ρ0 (sbr S c d t n) (n, loc, stk, h)) := by
  constructor
  · intro hc
    obtain ⟨S', e1, e2, -⟩ := scnd_ok c hM hc
    refine ⟨(t, S'), ?_, ρ, rfl, e2⟩
    unfold sbr
    rw [e1]
    exact List.mem_append_left _ (List.mem_singleton.mpr rfl)
  · intro hc
    obtain ⟨S', e1, e2, -⟩ := scnd_ok (scn c) hM (scn_ok hc)
    refine ⟨(n, S'), ?_, ρ, rfl, e2⟩
    unfold sbr
    rw [e1]
    exact List.mem_append_right _ (List.mem_singleton.mpr rfl)
theorem zk1_T {c : ClassFile.Cond} {x : Int32} : zk1 c x = true ↔ scT c x.toInt := by
  have h0 : (0 : Int32).toInt = 0 := rfl
  cases c <;> simp only [zk1, scT, decide_eq_true_eq]
  · rw [← Int32.toInt_inj, h0]
  · rw [← Int32.toInt_inj, h0]
  · rw [Int32.lt_iff_toInt_lt, h0]
  · rw [Int32.le_iff_toInt_le, h0]
  · rw [Int32.lt_iff_toInt_lt, h0]
  · rw [Int32.le_iff_toInt_le, h0]
theorem zk2_T {c : ClassFile.Cond} {x y : Int32} : zk2 c x y = true ↔ scT c (x.toInt - y.toInt) := by
  cases c <;> simp only [zk2, scT, decide_eq_true_eq]
  · rw [← Int32.toInt_inj]; omega
  · rw [← Int32.toInt_inj]; omega
  · rw [Int32.lt_iff_toInt_lt]; omega
  · rw [Int32.le_iff_toInt_le]; omega
  · rw [Int32.lt_iff_toInt_lt]; omega
  · rw [Int32.le_iff_toInt_le]; omega
theorem sli_ok {k n : Nat} {L : List (Nat × sS)} (hM : sMt reg gv ρ ρ0 S loc stk h) (hL : sli S k n = some L) : ∃ q, zog loc k (fun v => zgd (zbI v) (some (n, loc, v :: stk, h))) = some q ∧ q.2.2.2 = h ∧ sgo reg gv ρ0 L q := by
  unfold sli at hL
  cases hg : sgl S k with
  | none => rw [hg] at hL; cases hL
  | some s =>
    obtain ⟨v, e1, e2⟩ := sgl_ok hM hg
    match s, v, e2, hg with
    | .inl e, .inl x, e2, hg =>
      rw [hg] at hL
      cases hL
      refine ⟨(n, loc, .inl x :: stk, h), ?_, rfl, _, List.mem_singleton.mpr rfl, ρ, rfl, sMt_stk hM ⟨e2, hM.2.1⟩⟩
      unfold zog
      rw [e1]
      rfl
    | .inr (.inl e), _, _, hg => rw [hg] at hL; cases hL
    | .inr (.inr e), _, _, hg => rw [hg] at hL; cases hL
theorem sll_ok {k n : Nat} {L : List (Nat × sS)} (hM : sMt reg gv ρ ρ0 S loc stk h) (hL : sll S k n = some L) : ∃ q, zog loc k (fun v => zgd (zbL v) (some (n, loc, v :: stk, h))) = some q ∧ q.2.2.2 = h ∧ sgo reg gv ρ0 L q := by
  unfold sll at hL
  cases hg : sgl S k with
  | none => rw [hg] at hL; cases hL
  | some s =>
    obtain ⟨v, e1, e2⟩ := sgl_ok hM hg
    match s, v, e2, hg with
    | .inr (.inl e), .inr (.inl x), e2, hg =>
      rw [hg] at hL
      cases hL
      refine ⟨(n, loc, .inr (.inl x) :: stk, h), ?_, rfl, _, List.mem_singleton.mpr rfl, ρ, rfl, sMt_stk hM ⟨e2, hM.2.1⟩⟩
      unfold zog
      rw [e1]
      rfl
    | .inl e, _, _, hg => rw [hg] at hL; cases hL
    | .inr (.inr e), _, _, hg => rw [hg] at hL; cases hL
theorem slr_ok {k n : Nat} {L : List (Nat × sS)} (hM : sMt reg gv ρ ρ0 S loc stk h) (hL : slr S k n = some L) : ∃ q, zog loc k (fun v => zgd (zbR v) (some (n, loc, v :: stk, h))) = some q ∧ q.2.2.2 = h ∧ sgo reg gv ρ0 L q := by
  unfold slr at hL
  cases hg : sgl S k with
  | none => rw [hg] at hL; cases hL
  | some s =>
    obtain ⟨v, e1, e2⟩ := sgl_ok hM hg
    match s, v, e2, hg with
    | .inr (.inr e), .inr (.inr x), e2, hg =>
      rw [hg] at hL
      cases hL
      refine ⟨(n, loc, .inr (.inr x) :: stk, h), ?_, rfl, _, List.mem_singleton.mpr rfl, ρ, rfl, sMt_stk hM ⟨e2, hM.2.1⟩⟩
      unfold zog
      rw [e1]
      rfl
    | .inl e, _, _, hg => rw [hg] at hL; cases hL
    | .inr (.inl e), _, _, hg => rw [hg] at hL; cases hL
theorem ssi_ok {k n : Nat} {L : List (Nat × sS)} (hM : sMt reg gv ρ ρ0 S loc stk h) (hL : ssi S k n = some L) : ∃ q, zo1 stk (fun x r => some (n, zput1 loc k (.inl x), r, h)) = some q ∧ q.2.2.2 = h ∧ sgo reg gv ρ0 L q := by
  unfold ssi at hL
  have hs := hM.2.1
  match hst : S.2.1, hL, hs with
  | .inl e :: r, hL, hs =>
    cases hL
    obtain ⟨x, r', rfl, e1, e2⟩ := sms_i hs
    exact ⟨_, rfl, rfl, _, List.mem_singleton.mpr rfl, ρ, rfl, spt1_ok hM.1 e1, e2, hM.2.2⟩
theorem ssr_ok {k n : Nat} {L : List (Nat × sS)} (hM : sMt reg gv ρ ρ0 S loc stk h) (hL : ssr S k n = some L) : ∃ q, zoR1 stk (fun x r => some (n, zput1 loc k (.inr (.inr x)), r, h)) = some q ∧ q.2.2.2 = h ∧ sgo reg gv ρ0 L q := by
  unfold ssr at hL
  have hs := hM.2.1
  match hst : S.2.1, hL, hs with
  | .inr (.inr e) :: r, hL, hs =>
    cases hL
    obtain ⟨x, r', rfl, e1, e2⟩ := sms_r hs
    exact ⟨_, rfl, rfl, _, List.mem_singleton.mpr rfl, ρ, rfl, spt1_ok hM.1 e1, e2, hM.2.2⟩
theorem ssl_ok {k n : Nat} {L : List (Nat × sS)} (hM : sMt reg gv ρ ρ0 S loc stk h) (hL : ssl S k n = some L) : ∃ q, zoL1 stk (fun x r => some (n, zput2 loc k (.inr (.inl x)), r, h)) = some q ∧ q.2.2.2 = h ∧ sgo reg gv ρ0 L q := by
  unfold ssl at hL
  have hs := hM.2.1
  match hst : S.2.1, hL, hs with
  | .inr (.inl e) :: r, hL, hs =>
    cases hL
    obtain ⟨x, r', rfl, e1, e2⟩ := sms_l hs
    exact ⟨_, rfl, rfl, _, List.mem_singleton.mpr rfl, ρ, rfl, spt2_ok hM.1 e1, e2, hM.2.2⟩
theorem sbin_ok {i : Instr} {pc : Nat} {L : List (Nat × sS)} (hM : sMt reg gv ρ ρ0 S loc stk h) (hL : (match S.2.1 with
    | .inl y :: .inl x :: _ => spu 2 (pc + 1) (so2 i S x y)
    | .inr (.inl y) :: .inr (.inl x) :: _ => spl 2 (pc + 1) (so2L i S x y)
    | _ => none) = some L) : ∃ q, zf1 i pc loc stk h = some q ∧ q.2.2.2 = h ∧ sgo reg gv ρ0 L q := by
  have hs := hM.2.1
  match hst : S.2.1, hL, hs with
  | .inl y :: .inl x :: r, hL, hs =>
    obtain ⟨y', r1, rfl, e1, e2⟩ := sms_i hs
    obtain ⟨x', r2, rfl, e3, e4⟩ := sms_i e2
    exact so2_ok hM e3 e1 hL
  | .inr (.inl y) :: .inr (.inl x) :: r, hL, hs =>
    obtain ⟨y', r1, rfl, e1, e2⟩ := sms_l hs
    obtain ⟨x', r2, rfl, e3, e4⟩ := sms_l e2
    exact so2L_ok hM e3 e1 hL
set_option maxHeartbeats 2000000 in
theorem s1_ok {i : Instr} {pc : Nat} {L : List (Nat × sS)} (hM : sMt reg gv ρ ρ0 S loc stk h) (hL : s1 i pc S = some L) : ∃ q, zf1 i pc loc stk h = some q ∧ q.2.2.2 = h ∧ sgo reg gv ρ0 L q := by
  have hs := hM.2.1
  cases i
  case iconst n =>
    simp only [s1] at hL
    split at hL
    case isFalse => cases hL
    case isTrue q =>
      cases hL
      exact ⟨_, rfl, rfl, _, List.mem_singleton.mpr rfl, ρ, rfl, sMt_stk hM ⟨by show (Int32.ofInt n).toInt = _; rw [sK_v]; exact so32 q.1 q.2, hs⟩⟩
  case bipush n =>
    simp only [s1] at hL
    split at hL
    case isFalse => cases hL
    case isTrue q =>
      cases hL
      exact ⟨_, rfl, rfl, _, List.mem_singleton.mpr rfl, ρ, rfl, sMt_stk hM ⟨by show ((Int8.ofInt n).toInt32).toInt = _; rw [sK_v]; exact so8 q.1 q.2, hs⟩⟩
  case sipush n =>
    simp only [s1] at hL
    split at hL
    case isFalse => cases hL
    case isTrue q =>
      cases hL
      exact ⟨_, rfl, rfl, _, List.mem_singleton.mpr rfl, ρ, rfl, sMt_stk hM ⟨by show ((Int16.ofInt n).toInt32).toInt = _; rw [sK_v]; exact so16 q.1 q.2, hs⟩⟩
  case lconst n =>
    simp only [s1] at hL
    split at hL
    case isFalse => cases hL
    case isTrue q =>
      cases hL
      refine ⟨_, rfl, rfl, _, List.mem_singleton.mpr rfl, ρ, rfl, sMt_stk hM ⟨?_, hs⟩⟩
      show (Int64.ofNat n.val).toInt = _
      rw [sK_v]
      have : n.val = 0 ∨ n.val = 1 := by omega
      rcases this with q | q <;> rw [q] <;> rfl
  case iload_n k => exact sli_ok hM hL
  case iload k => exact sli_ok hM hL
  case lload_n k => exact sll_ok hM hL
  case lload k => exact sll_ok hM hL
  case aload_n k => exact slr_ok hM hL
  case aload k => exact slr_ok hM hL
  case istore_n k => exact ssi_ok hM hL
  case istore k => exact ssi_ok hM hL
  case lstore_n k => exact ssl_ok hM hL
  case lstore k => exact ssl_ok hM hL
  case astore_n k => exact ssr_ok hM hL
  case astore k => exact ssr_ok hM hL
  case ineg =>
    simp only [s1] at hL
    match hst : S.2.1, hL, hs with
    | .inl x :: r, hL, hs =>
      obtain ⟨x', r1, rfl, e1, e2⟩ := sms_i hs
      exact ⟨_, rfl, rfl, spu_go (stk := .inl x' :: r1) hL (fun e T ho => sk2 (α := Nat) (swr_ok ho hM (-x') (fun h1 h2 => by rw [sng_v] at h1 h2 ⊢; rw [sneg32 _ (by omega) (by omega)]; omega)))⟩
  case i2l =>
    simp only [s1] at hL
    match hst : S.2.1, hL, hs with
    | .inl x :: r, hL, hs =>
      obtain ⟨x', r1, rfl, e1, e2⟩ := sms_i hs
      cases hL
      exact ⟨_, rfl, rfl, _, List.mem_singleton.mpr rfl, ρ, rfl, sMt_stk hM ⟨by show (x'.toInt64).toInt = _; rw [Int32.toInt_toInt64]; exact e1, e2⟩⟩
  case l2i =>
    simp only [s1] at hL
    match hst : S.2.1, hL, hs with
    | .inr (.inl x) :: r, hL, hs =>
      obtain ⟨x', r1, rfl, e1, e2⟩ := sms_l hs
      exact ⟨_, rfl, rfl, spu_go (stk := .inr (.inl x') :: r1) hL (fun e T ho => sk2 (α := Nat) (swr_ok ho hM (x'.toInt32) (fun h1 h2 => by rw [Int64.toInt_toInt32, e1]; exact sw32 h1 h2)))⟩
  case i2c =>
    simp only [s1] at hL
    match hst : S.2.1, hL, hs with
    | .inl x :: r, hL, hs =>
      obtain ⟨x', r1, rfl, e1, e2⟩ := sms_i hs
      exact ⟨_, rfl, rfl, spu_go (stk := .inl x' :: r1) hL (fun e T ho => sk2 (α := Nat) (srg_ok ho hM _ (fun h1 h2 => by rw [← e1]; exact si2c x' (by omega) (by omega))))⟩
  case dup =>
    simp only [s1] at hL
    match hst : S.2.1, stk, hL, hs with
    | v :: r, w :: r1, hL, hs =>
      simp only at hL
      split at hL
      case isTrue => cases hL
      case isFalse q =>
        cases hL
        have hc := (sm_cat hs.1).2.mp (by simpa using q)
        refine ⟨(pc + 1, loc, w :: w :: r1, h), ?_, rfl, _, List.mem_singleton.mpr rfl, ρ, rfl, sMt_stk hM ⟨hs.1, hs.1, hs.2⟩⟩
        simp only [zf1, zgd, hc]
        rfl
  case pop =>
    simp only [s1] at hL
    match hst : S.2.1, stk, hL, hs with
    | v :: r, w :: r1, hL, hs =>
      simp only at hL
      split at hL
      case isTrue => cases hL
      case isFalse q =>
        cases hL
        have hc := (sm_cat hs.1).2.mp (by simpa using q)
        refine ⟨(pc + 1, loc, r1, h), ?_, rfl, _, List.mem_singleton.mpr rfl, ρ, rfl, sMt_stk hM hs.2⟩
        simp only [zf1, zgd, hc]
        rfl
  case dup2 =>
    simp only [s1] at hL
    match hst : S.2.1, stk, hL, hs with
    | v :: v2 :: r, w :: w2 :: r1, hL, hs =>
      simp only at hL
      split at hL
      case isTrue => cases hL
      case isFalse q =>
        cases hL
        simp only [Bool.or_eq_true, not_or, Bool.not_eq_true] at q
        have hc := (sm_cat hs.1).2.mp q.1
        have hc2 := (sm_cat hs.2.1).2.mp q.2
        refine ⟨(pc + 1, loc, w :: w2 :: w :: w2 :: r1, h), ?_, rfl, _, List.mem_singleton.mpr rfl, ρ, rfl, sMt_stk hM ⟨hs.1, hs.2.1, hs.1, hs.2.1, hs.2.2⟩⟩
        simp only [zf1, zgd, hc, hc2]
        rfl
  case goto off =>
    simp only [s1] at hL
    split at hL
    case isFalse => cases hL
    case isTrue q =>
      cases hL
      refine ⟨(ztgt pc off, loc, stk, h), ?_, rfl, _, List.mem_singleton.mpr rfl, ρ, rfl, hM⟩
      simp only [zf1, zj]
      rw [if_pos q]
  case ifCond c off =>
    simp only [s1] at hL
    match hst : S.2.1, hL, hs with
    | .inl x :: r, hL, hs =>
      simp only at hL
      split at hL
      case isFalse => cases hL
      case isTrue q =>
        cases hL
        obtain ⟨x', r1, rfl, e1, e2⟩ := sms_i hs
        have hM2 : sMt reg gv ρ ρ0 (S.1, r, S.2.2) loc r1 h := sMt_stk hM e2
        have hb := sbr_ok (c := c) (d := x) (t := ztgt pc off) (n := pc + 3) hM2
        by_cases hk : zk1 c x' = true
        · refine ⟨(ztgt pc off, loc, r1, h), ?_, rfl, hb.1 (by rw [← e1]; exact zk1_T.mp hk)⟩
          simp only [zf1, zo1, zgd]
          rw [if_pos (decide_eq_true q), if_pos hk]
        · refine ⟨(pc + 3, loc, r1, h), ?_, rfl, hb.2 (by rw [← e1]; exact fun q => hk (zk1_T.mpr q))⟩
          simp only [zf1, zo1, zgd]
          rw [if_pos (decide_eq_true q), if_neg hk]
  case if_icmp c off =>
    simp only [s1] at hL
    match hst : S.2.1, hL, hs with
    | .inl y :: .inl x :: r, hL, hs =>
      simp only at hL
      split at hL
      case isFalse => cases hL
      case isTrue q =>
        cases hL
        obtain ⟨y', r1, rfl, e1, e2⟩ := sms_i hs
        obtain ⟨x', r2, rfl, e3, e4⟩ := sms_i e2
        have hM2 : sMt reg gv ρ ρ0 (S.1, r, S.2.2) loc r2 h := sMt_stk hM e4
        have hb := sbr_ok (c := c) (d := sadd x y (-1)) (t := ztgt pc off) (n := pc + 3) hM2
        have he : sv ρ (sadd x y (-1)) = x'.toInt - y'.toInt := by rw [sadd_v, e1, e3]; omega
        rw [he] at hb
        by_cases hk : zk2 c x' y' = true
        · refine ⟨(ztgt pc off, loc, r2, h), ?_, rfl, hb.1 (zk2_T.mp hk)⟩
          simp only [zf1, zo2, zgd]
          rw [if_pos (decide_eq_true q), if_pos hk]
        · refine ⟨(pc + 3, loc, r2, h), ?_, rfl, hb.2 (fun q => hk (zk2_T.mpr q))⟩
          simp only [zf1, zo2, zgd]
          rw [if_pos (decide_eq_true q), if_neg hk]
  case iinc k n =>
    simp only [s1] at hL
    cases hg : sgl S k with
    | none => rw [hg] at hL; cases hL
    | some s =>
      obtain ⟨v, e1, e2⟩ := sgl_ok hM hg
      match s, v, e2, hg, e1 with
      | .inl e, .inl x, e2, hg, e1 =>
        rw [hg] at hL
        simp only at hL
        split at hL
        case isFalse => cases hL
        case isTrue q =>
          cases hw : swr S (sac e n) with
          | none => rw [hw] at hL; cases hL
          | some z =>
            obtain ⟨v, T⟩ := z
            rw [hw] at hL
            cases hL
            have e2 : x.toInt = sv ρ e := e2
            obtain ⟨ρ', hM', hv, -⟩ := swr_ok hw hM (x + Int32.ofInt n) (fun h1 h2 => by rw [sac_v] at h1 h2 ⊢; rw [sadd32 _ _ (by rw [so32 q.1 q.2]; omega) (by rw [so32 q.1 q.2]; omega), so32 q.1 q.2]; omega)
            refine ⟨(pc + 3, zput1 loc k (.inl (x + Int32.ofInt n)), stk, h), ?_, rfl, _, List.mem_singleton.mpr rfl, ρ', rfl, spt1_ok hM'.1 hv, hM'.2⟩
            simp only [zf1, e1]
      | .inr (.inl e), _, _, hg, _ => rw [hg] at hL; cases hL
      | .inr (.inr e), _, _, hg, _ => rw [hg] at hL; cases hL
  all_goals exact sbin_ok hM hL
end S1OK2
