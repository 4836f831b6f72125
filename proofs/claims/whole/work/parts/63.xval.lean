/-- a sky of the class at s -/
def SkX (σ : mM) (s : Nat) (C : Ct) (w : Sk) : Prop := σ s 2 = w.1 ∧ (0 ≤ σ s 3 ∧ σ s 3 < 2 ^ C.1) ∧ (0 ≤ σ s 4 ∧ σ s 4 < 2 ^ C.1) ∧ ∀ p, p < C.1 → σ (s + 1) p = w.2.1 p ∧ bit (σ s 3) p = w.2.2.1 p ∧ bit (σ s 4) p = w.2.2.2.1 p ∧ ActR (σ (s + 2) p) (w.2.2.2.2 p)
/-- what the class has looked up for its sums -/
def EnX (σ : mM) (C : Ct) (w : Sk) : Prop := σ 21 4 = galesP C w ∧ ∀ p, p < C.1 → σ 23 p = around C w true p ∧ σ 24 p = around C w false p
/-- the city of the class -/
def RlX (σ : mM) (R0 R1 R2 r : Nat) (cs : List Int) : Prop := ∃ f : Nat, σ R1 r = (f : Int) ∧ σ R2 r = ((f + cs.length : Nat) : Int) ∧ f + cs.length ≤ 1603 ∧ ∀ (j : Nat) (h : j < cs.length), StepR (σ R0 (f + j)) cs[j]
def CtX (σ : mM) (C : Ct) : Prop := σ 3 4 = (C.1 : Int) ∧ σ 3 8 = C.2.1 ∧ (∀ p, p < C.1 → σ 6 p = C.2.2.1 p) ∧ ∀ r, r < 3 → RlX σ 8 9 10 r (C.2.2.2 r)
theorem SkX.cg {σ σ' : mM} {s : Nat} {C : Ct} {w : Sk} (h : SkX σ s C w) (e0 : σ' s = σ s) (e1 : σ' (s + 1) = σ (s + 1)) (e2 : σ' (s + 2) = σ (s + 2)) : SkX σ' s C w := by
  unfold SkX at *; rw [e0, e1, e2]; exact h
theorem EnX.cg {σ σ' : mM} {C : Ct} {w : Sk} (h : EnX σ C w) (e0 : σ' 21 4 = σ 21 4) (e1 : σ' 23 = σ 23) (e2 : σ' 24 = σ 24) : EnX σ' C w := by
  unfold EnX at *; rw [e0, e1, e2]; exact h
theorem RlX.cg {σ σ' : mM} {R0 R1 R2 r : Nat} {cs : List Int} (h : RlX σ R0 R1 R2 r cs) (e0 : σ' R0 = σ R0) (e1 : σ' R1 = σ R1) (e2 : σ' R2 = σ R2) : RlX σ' R0 R1 R2 r cs := by
  unfold RlX at *; rw [e0, e1, e2]; exact h
theorem CtX.cg {σ σ' : mM} {C : Ct} (h : CtX σ C) (e3 : σ' 3 = σ 3) (e6 : σ' 6 = σ 6) (e8 : σ' 8 = σ 8) (e9 : σ' 9 = σ 9) (e10 : σ' 10 = σ 10) : CtX σ' C := by
  unfold CtX at *; rw [e3, e6]; exact ⟨h.1, h.2.1, h.2.2.1, fun r hr => (h.2.2.2 r hr).cg e8 e9 e10⟩
theorem pw_128 {n : Nat} {v : Int} (hn : n ≤ 7) (h : 0 ≤ v ∧ v < 2 ^ n) : 0 ≤ v ∧ v < 128 := by
  have := pw7 n hn
  omega
theorem tyC_len {c : Int} {ts ts' : List Bool} (h : ts.length ≤ 64) (ht : tyC c ts = some ts') : ts'.length ≤ 64 := by
  rcases tyC_some ht with ⟨h1, h2, rfl⟩ | ⟨rfl, s, rfl, rfl⟩ | ⟨h1, h2, rfl⟩ | ⟨rfl, h2, rfl⟩ | ⟨rfl, s, rfl, rfl⟩ | ⟨h1, s, rfl, rfl⟩ | ⟨h1, s, rfl, rfl⟩ | ⟨h1, s, rfl, rfl⟩ <;> simp only [List.length_cons] at * <;> omega
section
variable {d : Nat} {σ : mM} {K : Option mV → mM → Prop}
theorem x_valuea {C : Ct} {w : Sk} {t : Nat → Int} {p r : Nat} {cs : List Int} {b : Bool} (hF : Fix σ) (hC : CtV C) (hw : SkV C w) (hp : p < C.1) (hn : σ 3 4 = (C.1 : Int)) (hne : σ 6 p = C.2.2.1 p) (hs : SkX σ 28 C w) (hE : EnX σ C w) (ht : 45 ∈ cs → σ 26 p = t p) (htb : -1000000 ≤ t p ∧ t p ≤ 1000000) (hr : r < 4) (hR : RlX σ 8 9 10 r cs) (hty : tys cs [] = some [b]) (hK : ∀ σ', Fr [22] [] σ σ' → K (some (.inl ((evC C w t p cs []).headD 0))) σ') : Mt (d + 3) 100 [.inr (.inr 21), .inr (.inr 7), .inl (r : Int), .inl (p : Int), .inr (.inr 28)] σ K := by
  refine Mt.go (lv := [some (.inr (.inr 21)), some (.inr (.inr 7)), some (.inl (r : Int)), some (.inl (p : Int)), some (.inr (.inr 28)), none, none, none]) rfl rfl rfl ?_
  obtain ⟨f, r1, r2, r3, r4⟩ := hR
  have n7 := hC.1
  have hv : ∀ c, 40 ≤ c → c ≤ 48 → -1000000 ≤ valC C w t p c ∧ valC C w t p c ≤ 1000000 := fun c _ _ => valC_le hC hw hp htb
  obtain ⟨s1, s2, s3, s4⟩ := hs
  obtain ⟨q1, q2, q3, q4⟩ := s4 p hp
  have q1 : σ 29 p = w.2.1 p := q1
  obtain ⟨g1, g2⟩ := hE
  obtain ⟨g3, g4⟩ := g2 p hp
  have b2 := pw_128 n7 s2
  have b3 := pw_128 n7 s3
  refine At.blk rfl rfl rfl fun sx => ?_
  simp (decide := true) only [RR, ms_app, toList_some, toList_none, if_true, if_false, true_and, and_true, cond_true, sm0, sm1, sm1l, sm2, lc_lt, lc_gt, lc_eq, Int.toNat_natCast, Int.reduceToNat, Nat.reduceAdd, Nat.reduceEqDiff, Int.reduceLT, Int.reduceEq, Int.reduceNeg, Int.reduceAdd, Int.reduceMul, Nat.reduceMul, ms_n, ms_i, ms_l, ms_p, PX, fxX hF, r1]
  refine ⟨⟨by omega, by omega⟩, ?_⟩
  have loop : ∀ (cs' : List Int) (k : Nat) (st : List Int) (ts : List Bool) (σ' : mM) (o : Option mV), Fr [22] [] σ σ' → k + cs'.length = f + cs.length → (∀ (j : Nat) (h : j < cs'.length), StepR (σ 8 (k + j)) cs'[j]) → (45 ∈ cs' → 45 ∈ cs) → StV ts st → ts.length ≤ 64 → tys cs' ts = some [b] → Stk σ' 22 st → evC C w t p cs' st = evC C w t p cs [] → At (d + 2) 100 1 [some (.inr (.inr 21)), some (.inr (.inr 7)), some (.inl (r : Int)), some (.inl (p : Int)), some (.inr (.inr 28)), some (.inl (st.length : Int)), some (.inl (k : Int)), o] [] σ' K := by
    intro cs'
    induction cs' with
    | nil =>
      intro k st ts σ' o fr hk hst h45 hV h64 hT hS he
      have hF' := hF.fr fr rfl
      have e2 : σ' 10 r = ((f + cs.length : Nat) : Int) := (fr 10 r rfl).trans r2
      simp only [List.length_nil, Nat.add_zero] at hk
      cases hT
      obtain ⟨v, s, rfl, hv1, hv2⟩ := hV.uncons
      obtain rfl := hv2.nil
      have hS0 : σ' 22 0 = v := hS.1
      refine At.blk rfl rfl rfl fun sx => ?_
      simp (decide := true) only [RR, ms_app, toList_some, toList_none, if_true, if_false, true_and, and_true, cond_true, sm0, sm1, sm1l, sm2, lc_lt, lc_gt, lc_eq, Int.toNat_natCast, Int.reduceToNat, Nat.reduceAdd, Nat.reduceEqDiff, Int.reduceLT, Int.reduceEq, Int.reduceNeg, Int.reduceAdd, Int.reduceMul, Nat.reduceMul, ms_n, ms_i, ms_l, ms_p, PX, fxX hF', e2, hk]
      rw [if_neg (by omega)]
      refine ⟨⟨by omega, by omega⟩, ?_⟩
      refine At.blk rfl rfl rfl fun sx => ?_
      simp (decide := true) only [RR, ms_app, toList_some, toList_none, if_true, if_false, true_and, and_true, cond_true, sm0, sm1, sm1l, sm2, lc_lt, lc_gt, lc_eq, Int.toNat_natCast, Int.reduceToNat, Nat.reduceAdd, Nat.reduceEqDiff, Int.reduceLT, Int.reduceEq, Int.reduceNeg, Int.reduceAdd, Int.reduceMul, Nat.reduceMul, ms_n, ms_i, ms_l, ms_p, PX, fxX hF', List.length_cons, List.length_nil]
      refine At.blk rfl rfl rfl fun sx => ?_
      simp (decide := true) only [RR, ms_app, toList_some, toList_none, if_true, if_false, true_and, and_true, cond_true, sm0, sm1, sm1l, sm2, lc_lt, lc_gt, lc_eq, Int.toNat_natCast, Int.reduceToNat, Nat.reduceAdd, Nat.reduceEqDiff, Int.reduceLT, Int.reduceEq, Int.reduceNeg, Int.reduceAdd, Int.reduceMul, Nat.reduceMul, ms_n, ms_i, ms_l, ms_p, PX, hS0]
      have := hK σ' fr
      rw [← he] at this
      exact this
    | cons c cs' ih =>
      intro k st ts σ' o fr hk hst h45 hV h64 hT hS he
      have hF' := hF.fr fr rfl
      have e2 : σ' 10 r = ((f + cs.length : Nat) : Int) := (fr 10 r rfl).trans r2
      have e0 : σ' 8 k = σ 8 k := fr 8 k rfl
      simp only [List.length_cons] at hk
      have hc := hst 0 (by simp)
      rw [Nat.add_zero, List.getElem_cons_zero] at hc
      simp only [tys] at hT
      cases ety : tyC c ts with
      | none => rw [ety] at hT; cases hT
      | some ts1 =>
      rw [ety] at hT
      have hT : tys cs' ts1 = some [b] := hT
      have hV1 := hV.step (hv c) ety
      have hlen := hV.len
      have w1 : Unit → w32 ((k : Int) + 1) = ((k + 1 : Nat) : Int) := fun _ => by rw [w32_small (by omega) (by omega)]; omega
      have nxt : ∀ (st1 : List Int) (σ1 : mM) (o1 : Option mV), st1 = stC C w t p c st → Fr [22] [] σ σ1 → Stk σ1 22 st1 → At (d + 2) 100 8 [some (.inr (.inr 21)), some (.inr (.inr 7)), some (.inl (r : Int)), some (.inl (p : Int)), some (.inr (.inr 28)), some (.inl (st1.length : Int)), some (.inl (k : Int)), o1] [] σ1 K := by
        intro st1 σ1 o1 e1 f1 k1
        refine At.blk rfl rfl rfl fun sx => ?_
        simp (decide := true) only [RR, ms_app, toList_some, toList_none, if_true, if_false, true_and, and_true, cond_true, sm0, sm1, sm1l, sm2, lc_lt, lc_gt, lc_eq, Int.toNat_natCast, Int.reduceToNat, Nat.reduceAdd, Nat.reduceEqDiff, Int.reduceLT, Int.reduceEq, Int.reduceNeg, Int.reduceAdd, Int.reduceMul, Nat.reduceMul, ms_n, ms_i, ms_l, ms_p, PX, w1 ()]
        refine ih (k + 1) st1 ts1 σ1 o1 f1 (by omega) (fun j hj => ?_) (fun h => h45 (List.mem_cons_of_mem _ h)) (by rw [e1]; exact hV1) (tyC_len h64 ety) hT k1 (by rw [e1]; exact he)
        have := hst (j + 1) (by simp only [List.length_cons]; omega)
        rw [List.getElem_cons_succ] at this
        rw [show k + 1 + j = k + (j + 1) by omega]
        exact this
      have push : ∀ (v : Int) (o1 : Option mV), st.length < 64 → v :: st = stC C w t p c st → At (d + 2) 100 3 [some (.inr (.inr 21)), some (.inr (.inr 7)), some (.inl (r : Int)), some (.inl (p : Int)), some (.inr (.inr 28)), some (.inl (st.length : Int)), some (.inl (k : Int)), o1] [.inl v, .inl (st.length : Int), .inr (.inr 22)] σ' K := by
        intro v o1 hl e1
        have w2 : Unit → w32 ((st.length : Int) + 1) = ((v :: st).length : Int) := fun _ => by rw [w32_small (by omega) (by omega)]; simp
        refine At.blk rfl rfl rfl fun sx => ?_
        simp (decide := true) only [RR, ms_app, toList_some, toList_none, if_true, if_false, true_and, and_true, cond_true, sm0, sm1, sm1l, sm2, lc_lt, lc_gt, lc_eq, Int.toNat_natCast, Int.reduceToNat, Nat.reduceAdd, Nat.reduceEqDiff, Int.reduceLT, Int.reduceEq, Int.reduceNeg, Int.reduceAdd, Int.reduceMul, Nat.reduceMul, ms_n, ms_i, ms_l, ms_p, PX, w2 ()]
        refine ⟨⟨by omega, by omega⟩, ?_⟩
        exact nxt (v :: st) _ o1 e1 (fr.setr rfl) hS.push
      refine At.blk rfl rfl rfl fun sx => ?_
      simp (decide := true) only [RR, ms_app, toList_some, toList_none, if_true, if_false, true_and, and_true, cond_true, sm0, sm1, sm1l, sm2, lc_lt, lc_gt, lc_eq, Int.toNat_natCast, Int.reduceToNat, Nat.reduceAdd, Nat.reduceEqDiff, Int.reduceLT, Int.reduceEq, Int.reduceNeg, Int.reduceAdd, Int.reduceMul, Nat.reduceMul, ms_n, ms_i, ms_l, ms_p, PX, fxX hF', e2, e0]
      rw [if_pos (by omega), i_and31]
      refine ⟨⟨by omega, by omega⟩, ⟨by omega, by omega⟩, ?_⟩
      rcases hc with ⟨v, v1, v2, v3⟩ | ⟨v2, v3⟩ | ⟨j, j1, j2, j3⟩ | ⟨v2, v3⟩ | ⟨v2, v3⟩ | ⟨j, j1, j2, j3⟩
      · have hl : st.length < 64 := by
          rcases tyC_some ety with h | h | h | h | h | h | h | h <;> omega
        rw [if_neg (by omega), if_pos (by omega), if_pos (by omega), i_shr5 (by omega) (by omega)]
        refine ⟨⟨by omega, by omega⟩, ?_⟩
        refine push _ _ hl ?_
        unfold stC
        rw [if_pos (by omega), show σ 8 k / 32 = c - 1000 by omega]
      · have hl : st.length < 64 := by
          rcases tyC_some ety with h | h | h | h | h | h | h | h <;> omega
        rw [if_neg (by omega), if_pos (by omega), if_pos (by omega), i_shr5 (by omega) (by omega)]
        refine ⟨⟨by omega, by omega⟩, ?_⟩
        refine push _ _ hl ?_
        unfold stC
        rw [if_neg (by omega), if_neg (by omega), if_neg (by omega), if_pos v3, show σ 8 k / 32 = 1 by omega]
      · have hl : st.length < 64 := by
          rcases tyC_some ety with h | h | h | h | h | h | h | h <;> omega
        rw [if_neg (by omega), if_pos (by omega), if_neg (by omega)]
        refine At.blk rfl rfl rfl fun sx => ?_
        simp (decide := true) only [RR, ms_app, toList_some, toList_none, if_true, if_false, true_and, and_true, cond_true, sm0, sm1, sm1l, sm2, lc_lt, lc_gt, lc_eq, Int.toNat_natCast, Int.reduceToNat, Nat.reduceAdd, Nat.reduceEqDiff, Int.reduceLT, Int.reduceEq, Int.reduceNeg, Int.reduceAdd, Int.reduceMul, Nat.reduceMul, ms_n, ms_i, ms_l, ms_p, PX, fxX hF']
        have push := fun v => push v (some (.inl (σ 8 k % 32))) hl
        have est : stC C w t p c st = valC C w t p c :: st := by
          unfold stC
          rw [if_neg (by omega), if_neg (by omega), if_pos (by omega)]
        rw [est] at push
        unfold valC at push
        refine cal_of rfl (x_fresh28 hF' (by omega) (by omega) (fun hk => ?_) (fun hk => ?_) (fun hk => ?_) (fun hk => ?_) (fun hk => ?_) (fun hk => ?_) (fun hk => ?_) (fun hk => ?_) (fun hk => ?_))
        · simp (decide := true) only [RR, ms_app, toList_some, toList_none, if_true, if_false, true_and, and_true, cond_true, sm0, sm1, sm1l, sm2, lc_lt, lc_gt, lc_eq, Int.toNat_natCast, Int.reduceToNat, Nat.reduceAdd, Nat.reduceEqDiff, Int.reduceLT, Int.reduceEq, Int.reduceNeg, Int.reduceAdd, Int.reduceMul, Nat.reduceMul, ms_n, ms_i, ms_l, ms_p, PX]
          refine push _ ?_
          rw [if_pos (by omega), fr 29 p rfl, q1]
        · simp (decide := true) only [RR, ms_app, toList_some, toList_none, if_true, if_false, true_and, and_true, cond_true, sm0, sm1, sm1l, sm2, lc_lt, lc_gt, lc_eq, Int.toNat_natCast, Int.reduceToNat, Nat.reduceAdd, Nat.reduceEqDiff, Int.reduceLT, Int.reduceEq, Int.reduceNeg, Int.reduceAdd, Int.reduceMul, Nat.reduceMul, ms_n, ms_i, ms_l, ms_p, PX]
          refine push _ ?_
          rw [if_neg (by omega), if_pos (by omega), fr 23 p rfl, g3]
        · simp (decide := true) only [RR, ms_app, toList_some, toList_none, if_true, if_false, true_and, and_true, cond_true, sm0, sm1, sm1l, sm2, lc_lt, lc_gt, lc_eq, Int.toNat_natCast, Int.reduceToNat, Nat.reduceAdd, Nat.reduceEqDiff, Int.reduceLT, Int.reduceEq, Int.reduceNeg, Int.reduceAdd, Int.reduceMul, Nat.reduceMul, ms_n, ms_i, ms_l, ms_p, PX]
          refine push _ ?_
          rw [if_neg (by omega), if_neg (by omega), if_pos (by omega), fr 24 p rfl, g4]
        · simp (decide := true) only [RR, ms_app, toList_some, toList_none, if_true, if_false, true_and, and_true, cond_true, sm0, sm1, sm1l, sm2, lc_lt, lc_gt, lc_eq, Int.toNat_natCast, Int.reduceToNat, Nat.reduceAdd, Nat.reduceEqDiff, Int.reduceLT, Int.reduceEq, Int.reduceNeg, Int.reduceAdd, Int.reduceMul, Nat.reduceMul, ms_n, ms_i, ms_l, ms_p, PX]
          refine push _ ?_
          rw [if_neg (by omega), if_neg (by omega), if_neg (by omega), if_pos (by omega), fr 28 2 rfl, s1]
        · simp (decide := true) only [RR, ms_app, toList_some, toList_none, if_true, if_false, true_and, and_true, cond_true, sm0, sm1, sm1l, sm2, lc_lt, lc_gt, lc_eq, Int.toNat_natCast, Int.reduceToNat, Nat.reduceAdd, Nat.reduceEqDiff, Int.reduceLT, Int.reduceEq, Int.reduceNeg, Int.reduceAdd, Int.reduceMul, Nat.reduceMul, ms_n, ms_i, ms_l, ms_p, PX]
          refine push _ ?_
          rw [if_neg (by omega), if_neg (by omega), if_neg (by omega), if_neg (by omega), if_pos (by omega), fr 21 4 rfl, g1]
        · simp (decide := true) only [RR, ms_app, toList_some, toList_none, if_true, if_false, true_and, and_true, cond_true, sm0, sm1, sm1l, sm2, lc_lt, lc_gt, lc_eq, Int.toNat_natCast, Int.reduceToNat, Nat.reduceAdd, Nat.reduceEqDiff, Int.reduceLT, Int.reduceEq, Int.reduceNeg, Int.reduceAdd, Int.reduceMul, Nat.reduceMul, ms_n, ms_i, ms_l, ms_p, PX]
          refine push _ ?_
          rw [if_neg (by omega), if_neg (by omega), if_neg (by omega), if_neg (by omega), if_neg (by omega), if_pos (by omega), fr 26 p rfl, ht (h45 (by rw [show c = 45 by omega]; exact List.mem_cons_self ..))]
        · simp (decide := true) only [RR, ms_app, toList_some, toList_none, if_true, if_false, true_and, and_true, cond_true, sm0, sm1, sm1l, sm2, lc_lt, lc_gt, lc_eq, Int.toNat_natCast, Int.reduceToNat, Nat.reduceAdd, Nat.reduceEqDiff, Int.reduceLT, Int.reduceEq, Int.reduceNeg, Int.reduceAdd, Int.reduceMul, Nat.reduceMul, ms_n, ms_i, ms_l, ms_p, PX]
          refine push _ ?_
          rw [if_neg (by omega), if_neg (by omega), if_neg (by omega), if_neg (by omega), if_neg (by omega), if_neg (by omega), if_pos (by omega)]
        · simp (decide := true) only [RR, ms_app, toList_some, toList_none, if_true, if_false, true_and, and_true, cond_true, sm0, sm1, sm1l, sm2, lc_lt, lc_gt, lc_eq, Int.toNat_natCast, Int.reduceToNat, Nat.reduceAdd, Nat.reduceEqDiff, Int.reduceLT, Int.reduceEq, Int.reduceNeg, Int.reduceAdd, Int.reduceMul, Nat.reduceMul, ms_n, ms_i, ms_l, ms_p, PX]
          refine push _ ?_
          rw [if_neg (by omega), if_neg (by omega), if_neg (by omega), if_neg (by omega), if_neg (by omega), if_neg (by omega), if_neg (by omega), if_pos (by omega), fr 28 3 rfl, i_bit b2.1 (by omega) (by omega), Int.toNat_natCast, q2]
        · simp (decide := true) only [RR, ms_app, toList_some, toList_none, if_true, if_false, true_and, and_true, cond_true, sm0, sm1, sm1l, sm2, lc_lt, lc_gt, lc_eq, Int.toNat_natCast, Int.reduceToNat, Nat.reduceAdd, Nat.reduceEqDiff, Int.reduceLT, Int.reduceEq, Int.reduceNeg, Int.reduceAdd, Int.reduceMul, Nat.reduceMul, ms_n, ms_i, ms_l, ms_p, PX]
          refine push _ ?_
          rw [if_neg (by omega), if_neg (by omega), if_neg (by omega), if_neg (by omega), if_neg (by omega), if_neg (by omega), if_neg (by omega), if_neg (by omega), fr 28 4 rfl, i_bit b3.1 (by omega) (by omega), Int.toNat_natCast, q3]
      · -- near
        have hts : ∃ s, ts = false :: s := by
          rcases tyC_some ety with h | ⟨_, s, h, _⟩ | h | h | ⟨h, _⟩ | ⟨h, _⟩ | ⟨h, _⟩ | ⟨h, _⟩
          · omega
          · exact ⟨s, h⟩
          · omega
          · omega
          · omega
          · omega
          · omega
          · omega
        obtain ⟨s', rfl⟩ := hts
        obtain ⟨x, st', rfl, x1, x2⟩ := hV.uncons
        simp only [List.length_cons] at hlen h64
        have l0 : ((x :: st').length : Int) = (st'.length : Int) + 1 := by simp
        have l1 : Unit → w32 (((x :: st').length : Int) - 1) = (st'.length : Int) := fun _ => by rw [l0, w32_small (by omega) (by omega)]; omega
        have hS0 : σ' 22 st'.length = x := hS.1
        rw [show σ 8 k % 32 = 10 by omega, if_pos (by omega)]
        refine At.blk rfl rfl rfl fun sx => ?_
        simp (decide := true) only [RR, ms_app, toList_some, toList_none, if_true, if_false, true_and, and_true, cond_true, sm0, sm1, sm1l, sm2, lc_lt, lc_gt, lc_eq, Int.toNat_natCast, Int.reduceToNat, Nat.reduceAdd, Nat.reduceEqDiff, Int.reduceLT, Int.reduceEq, Int.reduceNeg, Int.reduceAdd, Int.reduceMul, Nat.reduceMul, ms_n, ms_i, ms_l, ms_p, PX, fxX hF', l1 (), hS0]
        rw [if_pos (by omega)]
        refine ⟨⟨by omega, by omega⟩, ?_⟩
        refine cal_of rfl (x_changed10 (C := C) hF' ((fr 3 4 rfl).trans hn) n7 hp ((fr 6 p rfl).trans hne) (hC.near hp) ?_)
        simp (decide := true) only [RR, ms_app, toList_some, toList_none, if_true, if_false, true_and, and_true, cond_true, sm0, sm1, sm1l, sm2, lc_lt, lc_gt, lc_eq, Int.toNat_natCast, Int.reduceToNat, Nat.reduceAdd, Nat.reduceEqDiff, Int.reduceLT, Int.reduceEq, Int.reduceNeg, Int.reduceAdd, Int.reduceMul, Nat.reduceMul, ms_n, ms_i, ms_l, ms_p, PX]
        refine ⟨⟨by omega, by omega⟩, ?_⟩
        refine nxt (nearV C p x :: st') _ _ ?_ (fr.setr rfl) hS.2.push
        unfold stC
        rw [if_neg (by omega), if_pos (by omega)]; rfl
      · -- not
        have hts : ∃ s, ts = true :: s := by
          rcases tyC_some ety with h | ⟨h, _⟩ | h | h | ⟨_, s, h, _⟩ | ⟨h, _⟩ | ⟨h, _⟩ | ⟨h, _⟩
          · omega
          · omega
          · omega
          · omega
          · exact ⟨s, h⟩
          · omega
          · omega
          · omega
        obtain ⟨s', rfl⟩ := hts
        obtain ⟨x, st', rfl, x1, x2⟩ := hV.uncons
        rw [if_pos rfl] at x1
        simp only [List.length_cons] at hlen h64
        have l0 : ((x :: st').length : Int) = (st'.length : Int) + 1 := by simp
        have l1 : Unit → w32 (((x :: st').length : Int) - 1) = (st'.length : Int) := fun _ => by rw [l0, w32_small (by omega) (by omega)]; omega
        have hS0 : σ' 22 st'.length = x := hS.1
        rw [show σ 8 k % 32 = 11 by omega, if_pos (by omega)]
        refine At.blk rfl rfl rfl fun sx => ?_
        simp (decide := true) only [RR, ms_app, toList_some, toList_none, if_true, if_false, true_and, and_true, cond_true, sm0, sm1, sm1l, sm2, lc_lt, lc_gt, lc_eq, Int.toNat_natCast, Int.reduceToNat, Nat.reduceAdd, Nat.reduceEqDiff, Int.reduceLT, Int.reduceEq, Int.reduceNeg, Int.reduceAdd, Int.reduceMul, Nat.reduceMul, ms_n, ms_i, ms_l, ms_p, PX, fxX hF', l1 (), hS0]
        rw [if_pos (by omega)]
        refine ⟨⟨by omega, by omega⟩, ?_⟩
        refine cal_of rfl (x_changed11 x1 ?_)
        simp (decide := true) only [RR, ms_app, toList_some, toList_none, if_true, if_false, true_and, and_true, cond_true, sm0, sm1, sm1l, sm2, lc_lt, lc_gt, lc_eq, Int.toNat_natCast, Int.reduceToNat, Nat.reduceAdd, Nat.reduceEqDiff, Int.reduceLT, Int.reduceEq, Int.reduceNeg, Int.reduceAdd, Int.reduceMul, Nat.reduceMul, ms_n, ms_i, ms_l, ms_p, PX]
        refine ⟨⟨by omega, by omega⟩, ?_⟩
        refine nxt ((1 - x) :: st') _ _ ?_ (fr.setr rfl) hS.2.push
        unfold stC
        rw [if_neg (by omega), if_neg (by omega), if_neg (by omega), if_neg (by omega), if_pos (by omega)]; rfl
      · -- two are joined
        have hts : ∃ u s, ts = u :: u :: s ∧ (10 ≤ c → u = true) := by
          rcases tyC_some ety with h | ⟨h, _⟩ | h | h | ⟨h, _⟩ | ⟨h1, s, h, _⟩ | ⟨h1, s, h, _⟩ | ⟨h1, s, h, _⟩
          · omega
          · omega
          · omega
          · omega
          · omega
          · exact ⟨_, s, h, fun h9 => by omega⟩
          · exact ⟨_, s, h, fun h9 => by omega⟩
          · exact ⟨_, s, h, fun h9 => rfl⟩
        obtain ⟨u, s', rfl, hu⟩ := hts
        obtain ⟨y, st1, rfl, y1, y2⟩ := hV.uncons
        obtain ⟨x, st', rfl, x1, x2⟩ := y2.uncons
        have yb := hV.top
        have xb := y2.top
        simp only [List.length_cons] at hlen h64
        have l0 : ((y :: x :: st').length : Int) = (st'.length : Int) + 2 := by simp; omega
        have l1 : Unit → w32 (((y :: x :: st').length : Int) + -1) = (st'.length : Int) + 1 := fun _ => by rw [l0, w32_small (by omega) (by omega)]; omega
        have l2 : Unit → w32 ((st'.length : Int) + 1 - 1) = (st'.length : Int) := fun _ => by rw [w32_small (by omega) (by omega)]; omega
        have l3 : ((st'.length : Int) + 1).toNat = st'.length + 1 := by omega
        have hS1 : σ' 22 (st'.length + 1) = y := hS.1
        have hS0 : σ' 22 st'.length = x := hS.2.1
        have fin : ∀ (v : Int) (o1 : Option mV), v = joinC c x y → At (d + 2) 100 7 [some (.inr (.inr 21)), some (.inr (.inr 7)), some (.inl (r : Int)), some (.inl (p : Int)), some (.inr (.inr 28)), some (.inl ((st'.length : Int) + 1)), some (.inl (k : Int)), o1] [.inl v, .inl (st'.length : Int), .inr (.inr 22)] σ' K := by
          intro v o1 hvv
          refine At.blk rfl rfl rfl fun sx => ?_
          simp (decide := true) only [RR, ms_app, toList_some, toList_none, if_true, if_false, true_and, and_true, cond_true, sm0, sm1, sm1l, sm2, lc_lt, lc_gt, lc_eq, Int.toNat_natCast, Int.reduceToNat, Nat.reduceAdd, Nat.reduceEqDiff, Int.reduceLT, Int.reduceEq, Int.reduceNeg, Int.reduceAdd, Int.reduceMul, Nat.reduceMul, ms_n, ms_i, ms_l, ms_p, PX]
          refine ⟨⟨by omega, by omega⟩, ?_⟩
          have := nxt (v :: st') (mj_set σ' 22 st'.length v) o1 (by
            unfold stC
            rw [if_neg (by omega), if_neg (by omega), if_neg (by omega), if_neg (by omega), if_neg (by omega), hvv]; rfl) (fr.setr rfl) hS.2.2.push
          rw [show ((v :: st').length : Int) = (st'.length : Int) + 1 by simp] at this
          exact this
        have sm : σ 8 k % 32 = j := by omega
        rw [sm, if_pos (by omega)]
        refine At.blk rfl rfl rfl fun sx => ?_
        simp (decide := true) only [RR, ms_app, toList_some, toList_none, if_true, if_false, true_and, and_true, cond_true, sm0, sm1, sm1l, sm2, lc_lt, lc_gt, lc_eq, Int.toNat_natCast, Int.reduceToNat, Nat.reduceAdd, Nat.reduceEqDiff, Int.reduceLT, Int.reduceEq, Int.reduceNeg, Int.reduceAdd, Int.reduceMul, Nat.reduceMul, ms_n, ms_i, ms_l, ms_p, PX, fxX hF']
        rw [if_pos (by omega)]
        refine At.blk rfl rfl rfl fun sx => ?_
        simp (decide := true) only [RR, ms_app, toList_some, toList_none, if_true, if_false, true_and, and_true, cond_true, sm0, sm1, sm1l, sm2, lc_lt, lc_gt, lc_eq, Int.toNat_natCast, Int.reduceToNat, Nat.reduceAdd, Nat.reduceEqDiff, Int.reduceLT, Int.reduceEq, Int.reduceNeg, Int.reduceAdd, Int.reduceMul, Nat.reduceMul, ms_n, ms_i, ms_l, ms_p, PX, fxX hF', l1 (), l2 (), l3, hS0, hS1]
        rw [if_pos (by omega)]
        by_cases hj : 17 < j
        · rw [if_pos hj]
          refine At.blk rfl rfl rfl fun sx => ?_
          simp (decide := true) only [RR, ms_app, toList_some, toList_none, if_true, if_false, true_and, and_true, cond_true, sm0, sm1, sm1l, sm2, lc_lt, lc_gt, lc_eq, Int.toNat_natCast, Int.reduceToNat, Nat.reduceAdd, Nat.reduceEqDiff, Int.reduceLT, Int.reduceEq, Int.reduceNeg, Int.reduceAdd, Int.reduceMul, Nat.reduceMul, ms_n, ms_i, ms_l, ms_p, PX, fxX hF', l1 (), l2 (), l3, hS0, hS1]
          refine ⟨⟨by omega, by omega⟩, ⟨by omega, by omega⟩, ?_⟩
          refine cal_of rfl (x_compared (by omega) (fun h9 => ?_) ?_)
          · have := hu (by omega)
            rw [this, if_pos rfl] at x1 y1
            exact ⟨x1, y1⟩
          · simp (decide := true) only [RR, ms_app, toList_some, toList_none, if_true, if_false, true_and, and_true, cond_true, sm0, sm1, sm1l, sm2, lc_lt, lc_gt, lc_eq, Int.toNat_natCast, Int.reduceToNat, Nat.reduceAdd, Nat.reduceEqDiff, Int.reduceLT, Int.reduceEq, Int.reduceNeg, Int.reduceAdd, Int.reduceMul, Nat.reduceMul, ms_n, ms_i, ms_l, ms_p, PX]
            exact fin _ _ (by rw [j3])
        · rw [if_neg hj]
          refine ⟨⟨by omega, by omega⟩, ⟨by omega, by omega⟩, ?_⟩
          refine cal_of rfl (x_joined xb yb (by omega) ?_)
          simp (decide := true) only [RR, ms_app, toList_some, toList_none, if_true, if_false, true_and, and_true, cond_true, sm0, sm1, sm1l, sm2, lc_lt, lc_gt, lc_eq, Int.toNat_natCast, Int.reduceToNat, Nat.reduceAdd, Nat.reduceEqDiff, Int.reduceLT, Int.reduceEq, Int.reduceNeg, Int.reduceAdd, Int.reduceMul, Nat.reduceMul, ms_n, ms_i, ms_l, ms_p, PX]
          exact fin _ _ (by rw [j3])
  exact loop cs f [] [] σ none Fr.same rfl r4 id trivial (by decide) hty trivial rfl
theorem x_valueb {C : Ct} {w : Sk} {t : Nat → Int} {p r : Nat} {cs : List Int} {b : Bool} (hF : Fix σ) (hC : CtV C) (hw : SkV C w) (hp : p < C.1) (hn : σ 3 4 = (C.1 : Int)) (hne : σ 6 p = C.2.2.1 p) (hs : SkX σ 34 C w) (hE : EnX σ C w) (ht : 45 ∈ cs → σ 26 p = t p) (htb : -1000000 ≤ t p ∧ t p ≤ 1000000) (hr : r < 4) (hR : RlX σ 8 9 10 r cs) (hty : tys cs [] = some [b]) (hK : ∀ σ', Fr [22] [] σ σ' → K (some (.inl ((evC C w t p cs []).headD 0))) σ') : Mt (d + 3) 100 [.inr (.inr 21), .inr (.inr 7), .inl (r : Int), .inl (p : Int), .inr (.inr 34)] σ K := by
  refine Mt.go (lv := [some (.inr (.inr 21)), some (.inr (.inr 7)), some (.inl (r : Int)), some (.inl (p : Int)), some (.inr (.inr 34)), none, none, none]) rfl rfl rfl ?_
  obtain ⟨f, r1, r2, r3, r4⟩ := hR
  have n7 := hC.1
  have hv : ∀ c, 40 ≤ c → c ≤ 48 → -1000000 ≤ valC C w t p c ∧ valC C w t p c ≤ 1000000 := fun c _ _ => valC_le hC hw hp htb
  obtain ⟨s1, s2, s3, s4⟩ := hs
  obtain ⟨q1, q2, q3, q4⟩ := s4 p hp
  have q1 : σ 35 p = w.2.1 p := q1
  obtain ⟨g1, g2⟩ := hE
  obtain ⟨g3, g4⟩ := g2 p hp
  have b2 := pw_128 n7 s2
  have b3 := pw_128 n7 s3
  refine At.blk rfl rfl rfl fun sx => ?_
  simp (decide := true) only [RR, ms_app, toList_some, toList_none, if_true, if_false, true_and, and_true, cond_true, sm0, sm1, sm1l, sm2, lc_lt, lc_gt, lc_eq, Int.toNat_natCast, Int.reduceToNat, Nat.reduceAdd, Nat.reduceEqDiff, Int.reduceLT, Int.reduceEq, Int.reduceNeg, Int.reduceAdd, Int.reduceMul, Nat.reduceMul, ms_n, ms_i, ms_l, ms_p, PX, fxX hF, r1]
  refine ⟨⟨by omega, by omega⟩, ?_⟩
  have loop : ∀ (cs' : List Int) (k : Nat) (st : List Int) (ts : List Bool) (σ' : mM) (o : Option mV), Fr [22] [] σ σ' → k + cs'.length = f + cs.length → (∀ (j : Nat) (h : j < cs'.length), StepR (σ 8 (k + j)) cs'[j]) → (45 ∈ cs' → 45 ∈ cs) → StV ts st → ts.length ≤ 64 → tys cs' ts = some [b] → Stk σ' 22 st → evC C w t p cs' st = evC C w t p cs [] → At (d + 2) 100 1 [some (.inr (.inr 21)), some (.inr (.inr 7)), some (.inl (r : Int)), some (.inl (p : Int)), some (.inr (.inr 34)), some (.inl (st.length : Int)), some (.inl (k : Int)), o] [] σ' K := by
    intro cs'
    induction cs' with
    | nil =>
      intro k st ts σ' o fr hk hst h45 hV h64 hT hS he
      have hF' := hF.fr fr rfl
      have e2 : σ' 10 r = ((f + cs.length : Nat) : Int) := (fr 10 r rfl).trans r2
      simp only [List.length_nil, Nat.add_zero] at hk
      cases hT
      obtain ⟨v, s, rfl, hv1, hv2⟩ := hV.uncons
      obtain rfl := hv2.nil
      have hS0 : σ' 22 0 = v := hS.1
      refine At.blk rfl rfl rfl fun sx => ?_
      simp (decide := true) only [RR, ms_app, toList_some, toList_none, if_true, if_false, true_and, and_true, cond_true, sm0, sm1, sm1l, sm2, lc_lt, lc_gt, lc_eq, Int.toNat_natCast, Int.reduceToNat, Nat.reduceAdd, Nat.reduceEqDiff, Int.reduceLT, Int.reduceEq, Int.reduceNeg, Int.reduceAdd, Int.reduceMul, Nat.reduceMul, ms_n, ms_i, ms_l, ms_p, PX, fxX hF', e2, hk]
      rw [if_neg (by omega)]
      refine ⟨⟨by omega, by omega⟩, ?_⟩
      refine At.blk rfl rfl rfl fun sx => ?_
      simp (decide := true) only [RR, ms_app, toList_some, toList_none, if_true, if_false, true_and, and_true, cond_true, sm0, sm1, sm1l, sm2, lc_lt, lc_gt, lc_eq, Int.toNat_natCast, Int.reduceToNat, Nat.reduceAdd, Nat.reduceEqDiff, Int.reduceLT, Int.reduceEq, Int.reduceNeg, Int.reduceAdd, Int.reduceMul, Nat.reduceMul, ms_n, ms_i, ms_l, ms_p, PX, fxX hF', List.length_cons, List.length_nil]
      refine At.blk rfl rfl rfl fun sx => ?_
      simp (decide := true) only [RR, ms_app, toList_some, toList_none, if_true, if_false, true_and, and_true, cond_true, sm0, sm1, sm1l, sm2, lc_lt, lc_gt, lc_eq, Int.toNat_natCast, Int.reduceToNat, Nat.reduceAdd, Nat.reduceEqDiff, Int.reduceLT, Int.reduceEq, Int.reduceNeg, Int.reduceAdd, Int.reduceMul, Nat.reduceMul, ms_n, ms_i, ms_l, ms_p, PX, hS0]
      have := hK σ' fr
      rw [← he] at this
      exact this
    | cons c cs' ih =>
      intro k st ts σ' o fr hk hst h45 hV h64 hT hS he
      have hF' := hF.fr fr rfl
      have e2 : σ' 10 r = ((f + cs.length : Nat) : Int) := (fr 10 r rfl).trans r2
      have e0 : σ' 8 k = σ 8 k := fr 8 k rfl
      simp only [List.length_cons] at hk
      have hc := hst 0 (by simp)
      rw [Nat.add_zero, List.getElem_cons_zero] at hc
      simp only [tys] at hT
      cases ety : tyC c ts with
      | none => rw [ety] at hT; cases hT
      | some ts1 =>
      rw [ety] at hT
      have hT : tys cs' ts1 = some [b] := hT
      have hV1 := hV.step (hv c) ety
      have hlen := hV.len
      have w1 : Unit → w32 ((k : Int) + 1) = ((k + 1 : Nat) : Int) := fun _ => by rw [w32_small (by omega) (by omega)]; omega
      have nxt : ∀ (st1 : List Int) (σ1 : mM) (o1 : Option mV), st1 = stC C w t p c st → Fr [22] [] σ σ1 → Stk σ1 22 st1 → At (d + 2) 100 8 [some (.inr (.inr 21)), some (.inr (.inr 7)), some (.inl (r : Int)), some (.inl (p : Int)), some (.inr (.inr 34)), some (.inl (st1.length : Int)), some (.inl (k : Int)), o1] [] σ1 K := by
        intro st1 σ1 o1 e1 f1 k1
        refine At.blk rfl rfl rfl fun sx => ?_
        simp (decide := true) only [RR, ms_app, toList_some, toList_none, if_true, if_false, true_and, and_true, cond_true, sm0, sm1, sm1l, sm2, lc_lt, lc_gt, lc_eq, Int.toNat_natCast, Int.reduceToNat, Nat.reduceAdd, Nat.reduceEqDiff, Int.reduceLT, Int.reduceEq, Int.reduceNeg, Int.reduceAdd, Int.reduceMul, Nat.reduceMul, ms_n, ms_i, ms_l, ms_p, PX, w1 ()]
        refine ih (k + 1) st1 ts1 σ1 o1 f1 (by omega) (fun j hj => ?_) (fun h => h45 (List.mem_cons_of_mem _ h)) (by rw [e1]; exact hV1) (tyC_len h64 ety) hT k1 (by rw [e1]; exact he)
        have := hst (j + 1) (by simp only [List.length_cons]; omega)
        rw [List.getElem_cons_succ] at this
        rw [show k + 1 + j = k + (j + 1) by omega]
        exact this
      have push : ∀ (v : Int) (o1 : Option mV), st.length < 64 → v :: st = stC C w t p c st → At (d + 2) 100 3 [some (.inr (.inr 21)), some (.inr (.inr 7)), some (.inl (r : Int)), some (.inl (p : Int)), some (.inr (.inr 34)), some (.inl (st.length : Int)), some (.inl (k : Int)), o1] [.inl v, .inl (st.length : Int), .inr (.inr 22)] σ' K := by
        intro v o1 hl e1
        have w2 : Unit → w32 ((st.length : Int) + 1) = ((v :: st).length : Int) := fun _ => by rw [w32_small (by omega) (by omega)]; simp
        refine At.blk rfl rfl rfl fun sx => ?_
        simp (decide := true) only [RR, ms_app, toList_some, toList_none, if_true, if_false, true_and, and_true, cond_true, sm0, sm1, sm1l, sm2, lc_lt, lc_gt, lc_eq, Int.toNat_natCast, Int.reduceToNat, Nat.reduceAdd, Nat.reduceEqDiff, Int.reduceLT, Int.reduceEq, Int.reduceNeg, Int.reduceAdd, Int.reduceMul, Nat.reduceMul, ms_n, ms_i, ms_l, ms_p, PX, w2 ()]
        refine ⟨⟨by omega, by omega⟩, ?_⟩
        exact nxt (v :: st) _ o1 e1 (fr.setr rfl) hS.push
      refine At.blk rfl rfl rfl fun sx => ?_
      simp (decide := true) only [RR, ms_app, toList_some, toList_none, if_true, if_false, true_and, and_true, cond_true, sm0, sm1, sm1l, sm2, lc_lt, lc_gt, lc_eq, Int.toNat_natCast, Int.reduceToNat, Nat.reduceAdd, Nat.reduceEqDiff, Int.reduceLT, Int.reduceEq, Int.reduceNeg, Int.reduceAdd, Int.reduceMul, Nat.reduceMul, ms_n, ms_i, ms_l, ms_p, PX, fxX hF', e2, e0]
      rw [if_pos (by omega), i_and31]
      refine ⟨⟨by omega, by omega⟩, ⟨by omega, by omega⟩, ?_⟩
      rcases hc with ⟨v, v1, v2, v3⟩ | ⟨v2, v3⟩ | ⟨j, j1, j2, j3⟩ | ⟨v2, v3⟩ | ⟨v2, v3⟩ | ⟨j, j1, j2, j3⟩
      · have hl : st.length < 64 := by
          rcases tyC_some ety with h | h | h | h | h | h | h | h <;> omega
        rw [if_neg (by omega), if_pos (by omega), if_pos (by omega), i_shr5 (by omega) (by omega)]
        refine ⟨⟨by omega, by omega⟩, ?_⟩
        refine push _ _ hl ?_
        unfold stC
        rw [if_pos (by omega), show σ 8 k / 32 = c - 1000 by omega]
      · have hl : st.length < 64 := by
          rcases tyC_some ety with h | h | h | h | h | h | h | h <;> omega
        rw [if_neg (by omega), if_pos (by omega), if_pos (by omega), i_shr5 (by omega) (by omega)]
        refine ⟨⟨by omega, by omega⟩, ?_⟩
        refine push _ _ hl ?_
        unfold stC
        rw [if_neg (by omega), if_neg (by omega), if_neg (by omega), if_pos v3, show σ 8 k / 32 = 1 by omega]
      · have hl : st.length < 64 := by
          rcases tyC_some ety with h | h | h | h | h | h | h | h <;> omega
        rw [if_neg (by omega), if_pos (by omega), if_neg (by omega)]
        refine At.blk rfl rfl rfl fun sx => ?_
        simp (decide := true) only [RR, ms_app, toList_some, toList_none, if_true, if_false, true_and, and_true, cond_true, sm0, sm1, sm1l, sm2, lc_lt, lc_gt, lc_eq, Int.toNat_natCast, Int.reduceToNat, Nat.reduceAdd, Nat.reduceEqDiff, Int.reduceLT, Int.reduceEq, Int.reduceNeg, Int.reduceAdd, Int.reduceMul, Nat.reduceMul, ms_n, ms_i, ms_l, ms_p, PX, fxX hF']
        have push := fun v => push v (some (.inl (σ 8 k % 32))) hl
        have est : stC C w t p c st = valC C w t p c :: st := by
          unfold stC
          rw [if_neg (by omega), if_neg (by omega), if_pos (by omega)]
        rw [est] at push
        unfold valC at push
        refine cal_of rfl (x_fresh34 hF' (by omega) (by omega) (fun hk => ?_) (fun hk => ?_) (fun hk => ?_) (fun hk => ?_) (fun hk => ?_) (fun hk => ?_) (fun hk => ?_) (fun hk => ?_) (fun hk => ?_))
        · simp (decide := true) only [RR, ms_app, toList_some, toList_none, if_true, if_false, true_and, and_true, cond_true, sm0, sm1, sm1l, sm2, lc_lt, lc_gt, lc_eq, Int.toNat_natCast, Int.reduceToNat, Nat.reduceAdd, Nat.reduceEqDiff, Int.reduceLT, Int.reduceEq, Int.reduceNeg, Int.reduceAdd, Int.reduceMul, Nat.reduceMul, ms_n, ms_i, ms_l, ms_p, PX]
          refine push _ ?_
          rw [if_pos (by omega), fr 35 p rfl, q1]
        · simp (decide := true) only [RR, ms_app, toList_some, toList_none, if_true, if_false, true_and, and_true, cond_true, sm0, sm1, sm1l, sm2, lc_lt, lc_gt, lc_eq, Int.toNat_natCast, Int.reduceToNat, Nat.reduceAdd, Nat.reduceEqDiff, Int.reduceLT, Int.reduceEq, Int.reduceNeg, Int.reduceAdd, Int.reduceMul, Nat.reduceMul, ms_n, ms_i, ms_l, ms_p, PX]
          refine push _ ?_
          rw [if_neg (by omega), if_pos (by omega), fr 23 p rfl, g3]
        · simp (decide := true) only [RR, ms_app, toList_some, toList_none, if_true, if_false, true_and, and_true, cond_true, sm0, sm1, sm1l, sm2, lc_lt, lc_gt, lc_eq, Int.toNat_natCast, Int.reduceToNat, Nat.reduceAdd, Nat.reduceEqDiff, Int.reduceLT, Int.reduceEq, Int.reduceNeg, Int.reduceAdd, Int.reduceMul, Nat.reduceMul, ms_n, ms_i, ms_l, ms_p, PX]
          refine push _ ?_
          rw [if_neg (by omega), if_neg (by omega), if_pos (by omega), fr 24 p rfl, g4]
        · simp (decide := true) only [RR, ms_app, toList_some, toList_none, if_true, if_false, true_and, and_true, cond_true, sm0, sm1, sm1l, sm2, lc_lt, lc_gt, lc_eq, Int.toNat_natCast, Int.reduceToNat, Nat.reduceAdd, Nat.reduceEqDiff, Int.reduceLT, Int.reduceEq, Int.reduceNeg, Int.reduceAdd, Int.reduceMul, Nat.reduceMul, ms_n, ms_i, ms_l, ms_p, PX]
          refine push _ ?_
          rw [if_neg (by omega), if_neg (by omega), if_neg (by omega), if_pos (by omega), fr 34 2 rfl, s1]
        · simp (decide := true) only [RR, ms_app, toList_some, toList_none, if_true, if_false, true_and, and_true, cond_true, sm0, sm1, sm1l, sm2, lc_lt, lc_gt, lc_eq, Int.toNat_natCast, Int.reduceToNat, Nat.reduceAdd, Nat.reduceEqDiff, Int.reduceLT, Int.reduceEq, Int.reduceNeg, Int.reduceAdd, Int.reduceMul, Nat.reduceMul, ms_n, ms_i, ms_l, ms_p, PX]
          refine push _ ?_
          rw [if_neg (by omega), if_neg (by omega), if_neg (by omega), if_neg (by omega), if_pos (by omega), fr 21 4 rfl, g1]
        · simp (decide := true) only [RR, ms_app, toList_some, toList_none, if_true, if_false, true_and, and_true, cond_true, sm0, sm1, sm1l, sm2, lc_lt, lc_gt, lc_eq, Int.toNat_natCast, Int.reduceToNat, Nat.reduceAdd, Nat.reduceEqDiff, Int.reduceLT, Int.reduceEq, Int.reduceNeg, Int.reduceAdd, Int.reduceMul, Nat.reduceMul, ms_n, ms_i, ms_l, ms_p, PX]
          refine push _ ?_
          rw [if_neg (by omega), if_neg (by omega), if_neg (by omega), if_neg (by omega), if_neg (by omega), if_pos (by omega), fr 26 p rfl, ht (h45 (by rw [show c = 45 by omega]; exact List.mem_cons_self ..))]
        · simp (decide := true) only [RR, ms_app, toList_some, toList_none, if_true, if_false, true_and, and_true, cond_true, sm0, sm1, sm1l, sm2, lc_lt, lc_gt, lc_eq, Int.toNat_natCast, Int.reduceToNat, Nat.reduceAdd, Nat.reduceEqDiff, Int.reduceLT, Int.reduceEq, Int.reduceNeg, Int.reduceAdd, Int.reduceMul, Nat.reduceMul, ms_n, ms_i, ms_l, ms_p, PX]
          refine push _ ?_
          rw [if_neg (by omega), if_neg (by omega), if_neg (by omega), if_neg (by omega), if_neg (by omega), if_neg (by omega), if_pos (by omega)]
        · simp (decide := true) only [RR, ms_app, toList_some, toList_none, if_true, if_false, true_and, and_true, cond_true, sm0, sm1, sm1l, sm2, lc_lt, lc_gt, lc_eq, Int.toNat_natCast, Int.reduceToNat, Nat.reduceAdd, Nat.reduceEqDiff, Int.reduceLT, Int.reduceEq, Int.reduceNeg, Int.reduceAdd, Int.reduceMul, Nat.reduceMul, ms_n, ms_i, ms_l, ms_p, PX]
          refine push _ ?_
          rw [if_neg (by omega), if_neg (by omega), if_neg (by omega), if_neg (by omega), if_neg (by omega), if_neg (by omega), if_neg (by omega), if_pos (by omega), fr 34 3 rfl, i_bit b2.1 (by omega) (by omega), Int.toNat_natCast, q2]
        · simp (decide := true) only [RR, ms_app, toList_some, toList_none, if_true, if_false, true_and, and_true, cond_true, sm0, sm1, sm1l, sm2, lc_lt, lc_gt, lc_eq, Int.toNat_natCast, Int.reduceToNat, Nat.reduceAdd, Nat.reduceEqDiff, Int.reduceLT, Int.reduceEq, Int.reduceNeg, Int.reduceAdd, Int.reduceMul, Nat.reduceMul, ms_n, ms_i, ms_l, ms_p, PX]
          refine push _ ?_
          rw [if_neg (by omega), if_neg (by omega), if_neg (by omega), if_neg (by omega), if_neg (by omega), if_neg (by omega), if_neg (by omega), if_neg (by omega), fr 34 4 rfl, i_bit b3.1 (by omega) (by omega), Int.toNat_natCast, q3]
      · -- near
        have hts : ∃ s, ts = false :: s := by
          rcases tyC_some ety with h | ⟨_, s, h, _⟩ | h | h | ⟨h, _⟩ | ⟨h, _⟩ | ⟨h, _⟩ | ⟨h, _⟩
          · omega
          · exact ⟨s, h⟩
          · omega
          · omega
          · omega
          · omega
          · omega
          · omega
        obtain ⟨s', rfl⟩ := hts
        obtain ⟨x, st', rfl, x1, x2⟩ := hV.uncons
        simp only [List.length_cons] at hlen h64
        have l0 : ((x :: st').length : Int) = (st'.length : Int) + 1 := by simp
        have l1 : Unit → w32 (((x :: st').length : Int) - 1) = (st'.length : Int) := fun _ => by rw [l0, w32_small (by omega) (by omega)]; omega
        have hS0 : σ' 22 st'.length = x := hS.1
        rw [show σ 8 k % 32 = 10 by omega, if_pos (by omega)]
        refine At.blk rfl rfl rfl fun sx => ?_
        simp (decide := true) only [RR, ms_app, toList_some, toList_none, if_true, if_false, true_and, and_true, cond_true, sm0, sm1, sm1l, sm2, lc_lt, lc_gt, lc_eq, Int.toNat_natCast, Int.reduceToNat, Nat.reduceAdd, Nat.reduceEqDiff, Int.reduceLT, Int.reduceEq, Int.reduceNeg, Int.reduceAdd, Int.reduceMul, Nat.reduceMul, ms_n, ms_i, ms_l, ms_p, PX, fxX hF', l1 (), hS0]
        rw [if_pos (by omega)]
        refine ⟨⟨by omega, by omega⟩, ?_⟩
        refine cal_of rfl (x_changed10 (C := C) hF' ((fr 3 4 rfl).trans hn) n7 hp ((fr 6 p rfl).trans hne) (hC.near hp) ?_)
        simp (decide := true) only [RR, ms_app, toList_some, toList_none, if_true, if_false, true_and, and_true, cond_true, sm0, sm1, sm1l, sm2, lc_lt, lc_gt, lc_eq, Int.toNat_natCast, Int.reduceToNat, Nat.reduceAdd, Nat.reduceEqDiff, Int.reduceLT, Int.reduceEq, Int.reduceNeg, Int.reduceAdd, Int.reduceMul, Nat.reduceMul, ms_n, ms_i, ms_l, ms_p, PX]
        refine ⟨⟨by omega, by omega⟩, ?_⟩
        refine nxt (nearV C p x :: st') _ _ ?_ (fr.setr rfl) hS.2.push
        unfold stC
        rw [if_neg (by omega), if_pos (by omega)]; rfl
      · -- not
        have hts : ∃ s, ts = true :: s := by
          rcases tyC_some ety with h | ⟨h, _⟩ | h | h | ⟨_, s, h, _⟩ | ⟨h, _⟩ | ⟨h, _⟩ | ⟨h, _⟩
          · omega
          · omega
          · omega
          · omega
          · exact ⟨s, h⟩
          · omega
          · omega
          · omega
        obtain ⟨s', rfl⟩ := hts
        obtain ⟨x, st', rfl, x1, x2⟩ := hV.uncons
        rw [if_pos rfl] at x1
        simp only [List.length_cons] at hlen h64
        have l0 : ((x :: st').length : Int) = (st'.length : Int) + 1 := by simp
        have l1 : Unit → w32 (((x :: st').length : Int) - 1) = (st'.length : Int) := fun _ => by rw [l0, w32_small (by omega) (by omega)]; omega
        have hS0 : σ' 22 st'.length = x := hS.1
        rw [show σ 8 k % 32 = 11 by omega, if_pos (by omega)]
        refine At.blk rfl rfl rfl fun sx => ?_
        simp (decide := true) only [RR, ms_app, toList_some, toList_none, if_true, if_false, true_and, and_true, cond_true, sm0, sm1, sm1l, sm2, lc_lt, lc_gt, lc_eq, Int.toNat_natCast, Int.reduceToNat, Nat.reduceAdd, Nat.reduceEqDiff, Int.reduceLT, Int.reduceEq, Int.reduceNeg, Int.reduceAdd, Int.reduceMul, Nat.reduceMul, ms_n, ms_i, ms_l, ms_p, PX, fxX hF', l1 (), hS0]
        rw [if_pos (by omega)]
        refine ⟨⟨by omega, by omega⟩, ?_⟩
        refine cal_of rfl (x_changed11 x1 ?_)
        simp (decide := true) only [RR, ms_app, toList_some, toList_none, if_true, if_false, true_and, and_true, cond_true, sm0, sm1, sm1l, sm2, lc_lt, lc_gt, lc_eq, Int.toNat_natCast, Int.reduceToNat, Nat.reduceAdd, Nat.reduceEqDiff, Int.reduceLT, Int.reduceEq, Int.reduceNeg, Int.reduceAdd, Int.reduceMul, Nat.reduceMul, ms_n, ms_i, ms_l, ms_p, PX]
        refine ⟨⟨by omega, by omega⟩, ?_⟩
        refine nxt ((1 - x) :: st') _ _ ?_ (fr.setr rfl) hS.2.push
        unfold stC
        rw [if_neg (by omega), if_neg (by omega), if_neg (by omega), if_neg (by omega), if_pos (by omega)]; rfl
      · -- two are joined
        have hts : ∃ u s, ts = u :: u :: s ∧ (10 ≤ c → u = true) := by
          rcases tyC_some ety with h | ⟨h, _⟩ | h | h | ⟨h, _⟩ | ⟨h1, s, h, _⟩ | ⟨h1, s, h, _⟩ | ⟨h1, s, h, _⟩
          · omega
          · omega
          · omega
          · omega
          · omega
          · exact ⟨_, s, h, fun h9 => by omega⟩
          · exact ⟨_, s, h, fun h9 => by omega⟩
          · exact ⟨_, s, h, fun h9 => rfl⟩
        obtain ⟨u, s', rfl, hu⟩ := hts
        obtain ⟨y, st1, rfl, y1, y2⟩ := hV.uncons
        obtain ⟨x, st', rfl, x1, x2⟩ := y2.uncons
        have yb := hV.top
        have xb := y2.top
        simp only [List.length_cons] at hlen h64
        have l0 : ((y :: x :: st').length : Int) = (st'.length : Int) + 2 := by simp; omega
        have l1 : Unit → w32 (((y :: x :: st').length : Int) + -1) = (st'.length : Int) + 1 := fun _ => by rw [l0, w32_small (by omega) (by omega)]; omega
        have l2 : Unit → w32 ((st'.length : Int) + 1 - 1) = (st'.length : Int) := fun _ => by rw [w32_small (by omega) (by omega)]; omega
        have l3 : ((st'.length : Int) + 1).toNat = st'.length + 1 := by omega
        have hS1 : σ' 22 (st'.length + 1) = y := hS.1
        have hS0 : σ' 22 st'.length = x := hS.2.1
        have fin : ∀ (v : Int) (o1 : Option mV), v = joinC c x y → At (d + 2) 100 7 [some (.inr (.inr 21)), some (.inr (.inr 7)), some (.inl (r : Int)), some (.inl (p : Int)), some (.inr (.inr 34)), some (.inl ((st'.length : Int) + 1)), some (.inl (k : Int)), o1] [.inl v, .inl (st'.length : Int), .inr (.inr 22)] σ' K := by
          intro v o1 hvv
          refine At.blk rfl rfl rfl fun sx => ?_
          simp (decide := true) only [RR, ms_app, toList_some, toList_none, if_true, if_false, true_and, and_true, cond_true, sm0, sm1, sm1l, sm2, lc_lt, lc_gt, lc_eq, Int.toNat_natCast, Int.reduceToNat, Nat.reduceAdd, Nat.reduceEqDiff, Int.reduceLT, Int.reduceEq, Int.reduceNeg, Int.reduceAdd, Int.reduceMul, Nat.reduceMul, ms_n, ms_i, ms_l, ms_p, PX]
          refine ⟨⟨by omega, by omega⟩, ?_⟩
          have := nxt (v :: st') (mj_set σ' 22 st'.length v) o1 (by
            unfold stC
            rw [if_neg (by omega), if_neg (by omega), if_neg (by omega), if_neg (by omega), if_neg (by omega), hvv]; rfl) (fr.setr rfl) hS.2.2.push
          rw [show ((v :: st').length : Int) = (st'.length : Int) + 1 by simp] at this
          exact this
        have sm : σ 8 k % 32 = j := by omega
        rw [sm, if_pos (by omega)]
        refine At.blk rfl rfl rfl fun sx => ?_
        simp (decide := true) only [RR, ms_app, toList_some, toList_none, if_true, if_false, true_and, and_true, cond_true, sm0, sm1, sm1l, sm2, lc_lt, lc_gt, lc_eq, Int.toNat_natCast, Int.reduceToNat, Nat.reduceAdd, Nat.reduceEqDiff, Int.reduceLT, Int.reduceEq, Int.reduceNeg, Int.reduceAdd, Int.reduceMul, Nat.reduceMul, ms_n, ms_i, ms_l, ms_p, PX, fxX hF']
        rw [if_pos (by omega)]
        refine At.blk rfl rfl rfl fun sx => ?_
        simp (decide := true) only [RR, ms_app, toList_some, toList_none, if_true, if_false, true_and, and_true, cond_true, sm0, sm1, sm1l, sm2, lc_lt, lc_gt, lc_eq, Int.toNat_natCast, Int.reduceToNat, Nat.reduceAdd, Nat.reduceEqDiff, Int.reduceLT, Int.reduceEq, Int.reduceNeg, Int.reduceAdd, Int.reduceMul, Nat.reduceMul, ms_n, ms_i, ms_l, ms_p, PX, fxX hF', l1 (), l2 (), l3, hS0, hS1]
        rw [if_pos (by omega)]
        by_cases hj : 17 < j
        · rw [if_pos hj]
          refine At.blk rfl rfl rfl fun sx => ?_
          simp (decide := true) only [RR, ms_app, toList_some, toList_none, if_true, if_false, true_and, and_true, cond_true, sm0, sm1, sm1l, sm2, lc_lt, lc_gt, lc_eq, Int.toNat_natCast, Int.reduceToNat, Nat.reduceAdd, Nat.reduceEqDiff, Int.reduceLT, Int.reduceEq, Int.reduceNeg, Int.reduceAdd, Int.reduceMul, Nat.reduceMul, ms_n, ms_i, ms_l, ms_p, PX, fxX hF', l1 (), l2 (), l3, hS0, hS1]
          refine ⟨⟨by omega, by omega⟩, ⟨by omega, by omega⟩, ?_⟩
          refine cal_of rfl (x_compared (by omega) (fun h9 => ?_) ?_)
          · have := hu (by omega)
            rw [this, if_pos rfl] at x1 y1
            exact ⟨x1, y1⟩
          · simp (decide := true) only [RR, ms_app, toList_some, toList_none, if_true, if_false, true_and, and_true, cond_true, sm0, sm1, sm1l, sm2, lc_lt, lc_gt, lc_eq, Int.toNat_natCast, Int.reduceToNat, Nat.reduceAdd, Nat.reduceEqDiff, Int.reduceLT, Int.reduceEq, Int.reduceNeg, Int.reduceAdd, Int.reduceMul, Nat.reduceMul, ms_n, ms_i, ms_l, ms_p, PX]
            exact fin _ _ (by rw [j3])
        · rw [if_neg hj]
          refine ⟨⟨by omega, by omega⟩, ⟨by omega, by omega⟩, ?_⟩
          refine cal_of rfl (x_joined xb yb (by omega) ?_)
          simp (decide := true) only [RR, ms_app, toList_some, toList_none, if_true, if_false, true_and, and_true, cond_true, sm0, sm1, sm1l, sm2, lc_lt, lc_gt, lc_eq, Int.toNat_natCast, Int.reduceToNat, Nat.reduceAdd, Nat.reduceEqDiff, Int.reduceLT, Int.reduceEq, Int.reduceNeg, Int.reduceAdd, Int.reduceMul, Nat.reduceMul, ms_n, ms_i, ms_l, ms_p, PX]
          exact fin _ _ (by rw [j3])
  exact loop cs f [] [] σ none Fr.same rfl r4 id trivial (by decide) hty trivial rfl
theorem x_valuec {C : Ct} {w : Sk} {t : Nat → Int} {p r : Nat} {cs : List Int} {b : Bool} (hF : Fix σ) (hC : CtV C) (hw : SkV C w) (hp : p < C.1) (hn : σ 3 4 = (C.1 : Int)) (hne : σ 6 p = C.2.2.1 p) (hs : SkX σ 28 C w) (hE : EnX σ C w) (ht : 45 ∈ cs → σ 26 p = t p) (htb : -1000000 ≤ t p ∧ t p ≤ 1000000) (hr : r < 4) (hR : RlX σ 16 17 18 r cs) (hty : tys cs [] = some [b]) (hK : ∀ σ', Fr [22] [] σ σ' → K (some (.inl ((evC C w t p cs []).headD 0))) σ') : Mt (d + 3) 100 [.inr (.inr 21), .inr (.inr 15), .inl (r : Int), .inl (p : Int), .inr (.inr 28)] σ K := by
  refine Mt.go (lv := [some (.inr (.inr 21)), some (.inr (.inr 15)), some (.inl (r : Int)), some (.inl (p : Int)), some (.inr (.inr 28)), none, none, none]) rfl rfl rfl ?_
  obtain ⟨f, r1, r2, r3, r4⟩ := hR
  have n7 := hC.1
  have hv : ∀ c, 40 ≤ c → c ≤ 48 → -1000000 ≤ valC C w t p c ∧ valC C w t p c ≤ 1000000 := fun c _ _ => valC_le hC hw hp htb
  obtain ⟨s1, s2, s3, s4⟩ := hs
  obtain ⟨q1, q2, q3, q4⟩ := s4 p hp
  have q1 : σ 29 p = w.2.1 p := q1
  obtain ⟨g1, g2⟩ := hE
  obtain ⟨g3, g4⟩ := g2 p hp
  have b2 := pw_128 n7 s2
  have b3 := pw_128 n7 s3
  refine At.blk rfl rfl rfl fun sx => ?_
  simp (decide := true) only [RR, ms_app, toList_some, toList_none, if_true, if_false, true_and, and_true, cond_true, sm0, sm1, sm1l, sm2, lc_lt, lc_gt, lc_eq, Int.toNat_natCast, Int.reduceToNat, Nat.reduceAdd, Nat.reduceEqDiff, Int.reduceLT, Int.reduceEq, Int.reduceNeg, Int.reduceAdd, Int.reduceMul, Nat.reduceMul, ms_n, ms_i, ms_l, ms_p, PX, fxX hF, r1]
  refine ⟨⟨by omega, by omega⟩, ?_⟩
  have loop : ∀ (cs' : List Int) (k : Nat) (st : List Int) (ts : List Bool) (σ' : mM) (o : Option mV), Fr [22] [] σ σ' → k + cs'.length = f + cs.length → (∀ (j : Nat) (h : j < cs'.length), StepR (σ 16 (k + j)) cs'[j]) → (45 ∈ cs' → 45 ∈ cs) → StV ts st → ts.length ≤ 64 → tys cs' ts = some [b] → Stk σ' 22 st → evC C w t p cs' st = evC C w t p cs [] → At (d + 2) 100 1 [some (.inr (.inr 21)), some (.inr (.inr 15)), some (.inl (r : Int)), some (.inl (p : Int)), some (.inr (.inr 28)), some (.inl (st.length : Int)), some (.inl (k : Int)), o] [] σ' K := by
    intro cs'
    induction cs' with
    | nil =>
      intro k st ts σ' o fr hk hst h45 hV h64 hT hS he
      have hF' := hF.fr fr rfl
      have e2 : σ' 18 r = ((f + cs.length : Nat) : Int) := (fr 18 r rfl).trans r2
      simp only [List.length_nil, Nat.add_zero] at hk
      cases hT
      obtain ⟨v, s, rfl, hv1, hv2⟩ := hV.uncons
      obtain rfl := hv2.nil
      have hS0 : σ' 22 0 = v := hS.1
      refine At.blk rfl rfl rfl fun sx => ?_
      simp (decide := true) only [RR, ms_app, toList_some, toList_none, if_true, if_false, true_and, and_true, cond_true, sm0, sm1, sm1l, sm2, lc_lt, lc_gt, lc_eq, Int.toNat_natCast, Int.reduceToNat, Nat.reduceAdd, Nat.reduceEqDiff, Int.reduceLT, Int.reduceEq, Int.reduceNeg, Int.reduceAdd, Int.reduceMul, Nat.reduceMul, ms_n, ms_i, ms_l, ms_p, PX, fxX hF', e2, hk]
      rw [if_neg (by omega)]
      refine ⟨⟨by omega, by omega⟩, ?_⟩
      refine At.blk rfl rfl rfl fun sx => ?_
      simp (decide := true) only [RR, ms_app, toList_some, toList_none, if_true, if_false, true_and, and_true, cond_true, sm0, sm1, sm1l, sm2, lc_lt, lc_gt, lc_eq, Int.toNat_natCast, Int.reduceToNat, Nat.reduceAdd, Nat.reduceEqDiff, Int.reduceLT, Int.reduceEq, Int.reduceNeg, Int.reduceAdd, Int.reduceMul, Nat.reduceMul, ms_n, ms_i, ms_l, ms_p, PX, fxX hF', List.length_cons, List.length_nil]
      refine At.blk rfl rfl rfl fun sx => ?_
      simp (decide := true) only [RR, ms_app, toList_some, toList_none, if_true, if_false, true_and, and_true, cond_true, sm0, sm1, sm1l, sm2, lc_lt, lc_gt, lc_eq, Int.toNat_natCast, Int.reduceToNat, Nat.reduceAdd, Nat.reduceEqDiff, Int.reduceLT, Int.reduceEq, Int.reduceNeg, Int.reduceAdd, Int.reduceMul, Nat.reduceMul, ms_n, ms_i, ms_l, ms_p, PX, hS0]
      have := hK σ' fr
      rw [← he] at this
      exact this
    | cons c cs' ih =>
      intro k st ts σ' o fr hk hst h45 hV h64 hT hS he
      have hF' := hF.fr fr rfl
      have e2 : σ' 18 r = ((f + cs.length : Nat) : Int) := (fr 18 r rfl).trans r2
      have e0 : σ' 16 k = σ 16 k := fr 16 k rfl
      simp only [List.length_cons] at hk
      have hc := hst 0 (by simp)
      rw [Nat.add_zero, List.getElem_cons_zero] at hc
      simp only [tys] at hT
      cases ety : tyC c ts with
      | none => rw [ety] at hT; cases hT
      | some ts1 =>
      rw [ety] at hT
      have hT : tys cs' ts1 = some [b] := hT
      have hV1 := hV.step (hv c) ety
      have hlen := hV.len
      have w1 : Unit → w32 ((k : Int) + 1) = ((k + 1 : Nat) : Int) := fun _ => by rw [w32_small (by omega) (by omega)]; omega
      have nxt : ∀ (st1 : List Int) (σ1 : mM) (o1 : Option mV), st1 = stC C w t p c st → Fr [22] [] σ σ1 → Stk σ1 22 st1 → At (d + 2) 100 8 [some (.inr (.inr 21)), some (.inr (.inr 15)), some (.inl (r : Int)), some (.inl (p : Int)), some (.inr (.inr 28)), some (.inl (st1.length : Int)), some (.inl (k : Int)), o1] [] σ1 K := by
        intro st1 σ1 o1 e1 f1 k1
        refine At.blk rfl rfl rfl fun sx => ?_
        simp (decide := true) only [RR, ms_app, toList_some, toList_none, if_true, if_false, true_and, and_true, cond_true, sm0, sm1, sm1l, sm2, lc_lt, lc_gt, lc_eq, Int.toNat_natCast, Int.reduceToNat, Nat.reduceAdd, Nat.reduceEqDiff, Int.reduceLT, Int.reduceEq, Int.reduceNeg, Int.reduceAdd, Int.reduceMul, Nat.reduceMul, ms_n, ms_i, ms_l, ms_p, PX, w1 ()]
        refine ih (k + 1) st1 ts1 σ1 o1 f1 (by omega) (fun j hj => ?_) (fun h => h45 (List.mem_cons_of_mem _ h)) (by rw [e1]; exact hV1) (tyC_len h64 ety) hT k1 (by rw [e1]; exact he)
        have := hst (j + 1) (by simp only [List.length_cons]; omega)
        rw [List.getElem_cons_succ] at this
        rw [show k + 1 + j = k + (j + 1) by omega]
        exact this
      have push : ∀ (v : Int) (o1 : Option mV), st.length < 64 → v :: st = stC C w t p c st → At (d + 2) 100 3 [some (.inr (.inr 21)), some (.inr (.inr 15)), some (.inl (r : Int)), some (.inl (p : Int)), some (.inr (.inr 28)), some (.inl (st.length : Int)), some (.inl (k : Int)), o1] [.inl v, .inl (st.length : Int), .inr (.inr 22)] σ' K := by
        intro v o1 hl e1
        have w2 : Unit → w32 ((st.length : Int) + 1) = ((v :: st).length : Int) := fun _ => by rw [w32_small (by omega) (by omega)]; simp
        refine At.blk rfl rfl rfl fun sx => ?_
        simp (decide := true) only [RR, ms_app, toList_some, toList_none, if_true, if_false, true_and, and_true, cond_true, sm0, sm1, sm1l, sm2, lc_lt, lc_gt, lc_eq, Int.toNat_natCast, Int.reduceToNat, Nat.reduceAdd, Nat.reduceEqDiff, Int.reduceLT, Int.reduceEq, Int.reduceNeg, Int.reduceAdd, Int.reduceMul, Nat.reduceMul, ms_n, ms_i, ms_l, ms_p, PX, w2 ()]
        refine ⟨⟨by omega, by omega⟩, ?_⟩
        exact nxt (v :: st) _ o1 e1 (fr.setr rfl) hS.push
      refine At.blk rfl rfl rfl fun sx => ?_
      simp (decide := true) only [RR, ms_app, toList_some, toList_none, if_true, if_false, true_and, and_true, cond_true, sm0, sm1, sm1l, sm2, lc_lt, lc_gt, lc_eq, Int.toNat_natCast, Int.reduceToNat, Nat.reduceAdd, Nat.reduceEqDiff, Int.reduceLT, Int.reduceEq, Int.reduceNeg, Int.reduceAdd, Int.reduceMul, Nat.reduceMul, ms_n, ms_i, ms_l, ms_p, PX, fxX hF', e2, e0]
      rw [if_pos (by omega), i_and31]
      refine ⟨⟨by omega, by omega⟩, ⟨by omega, by omega⟩, ?_⟩
      rcases hc with ⟨v, v1, v2, v3⟩ | ⟨v2, v3⟩ | ⟨j, j1, j2, j3⟩ | ⟨v2, v3⟩ | ⟨v2, v3⟩ | ⟨j, j1, j2, j3⟩
      · have hl : st.length < 64 := by
          rcases tyC_some ety with h | h | h | h | h | h | h | h <;> omega
        rw [if_neg (by omega), if_pos (by omega), if_pos (by omega), i_shr5 (by omega) (by omega)]
        refine ⟨⟨by omega, by omega⟩, ?_⟩
        refine push _ _ hl ?_
        unfold stC
        rw [if_pos (by omega), show σ 16 k / 32 = c - 1000 by omega]
      · have hl : st.length < 64 := by
          rcases tyC_some ety with h | h | h | h | h | h | h | h <;> omega
        rw [if_neg (by omega), if_pos (by omega), if_pos (by omega), i_shr5 (by omega) (by omega)]
        refine ⟨⟨by omega, by omega⟩, ?_⟩
        refine push _ _ hl ?_
        unfold stC
        rw [if_neg (by omega), if_neg (by omega), if_neg (by omega), if_pos v3, show σ 16 k / 32 = 1 by omega]
      · have hl : st.length < 64 := by
          rcases tyC_some ety with h | h | h | h | h | h | h | h <;> omega
        rw [if_neg (by omega), if_pos (by omega), if_neg (by omega)]
        refine At.blk rfl rfl rfl fun sx => ?_
        simp (decide := true) only [RR, ms_app, toList_some, toList_none, if_true, if_false, true_and, and_true, cond_true, sm0, sm1, sm1l, sm2, lc_lt, lc_gt, lc_eq, Int.toNat_natCast, Int.reduceToNat, Nat.reduceAdd, Nat.reduceEqDiff, Int.reduceLT, Int.reduceEq, Int.reduceNeg, Int.reduceAdd, Int.reduceMul, Nat.reduceMul, ms_n, ms_i, ms_l, ms_p, PX, fxX hF']
        have push := fun v => push v (some (.inl (σ 16 k % 32))) hl
        have est : stC C w t p c st = valC C w t p c :: st := by
          unfold stC
          rw [if_neg (by omega), if_neg (by omega), if_pos (by omega)]
        rw [est] at push
        unfold valC at push
        refine cal_of rfl (x_fresh28 hF' (by omega) (by omega) (fun hk => ?_) (fun hk => ?_) (fun hk => ?_) (fun hk => ?_) (fun hk => ?_) (fun hk => ?_) (fun hk => ?_) (fun hk => ?_) (fun hk => ?_))
        · simp (decide := true) only [RR, ms_app, toList_some, toList_none, if_true, if_false, true_and, and_true, cond_true, sm0, sm1, sm1l, sm2, lc_lt, lc_gt, lc_eq, Int.toNat_natCast, Int.reduceToNat, Nat.reduceAdd, Nat.reduceEqDiff, Int.reduceLT, Int.reduceEq, Int.reduceNeg, Int.reduceAdd, Int.reduceMul, Nat.reduceMul, ms_n, ms_i, ms_l, ms_p, PX]
          refine push _ ?_
          rw [if_pos (by omega), fr 29 p rfl, q1]
        · simp (decide := true) only [RR, ms_app, toList_some, toList_none, if_true, if_false, true_and, and_true, cond_true, sm0, sm1, sm1l, sm2, lc_lt, lc_gt, lc_eq, Int.toNat_natCast, Int.reduceToNat, Nat.reduceAdd, Nat.reduceEqDiff, Int.reduceLT, Int.reduceEq, Int.reduceNeg, Int.reduceAdd, Int.reduceMul, Nat.reduceMul, ms_n, ms_i, ms_l, ms_p, PX]
          refine push _ ?_
          rw [if_neg (by omega), if_pos (by omega), fr 23 p rfl, g3]
        · simp (decide := true) only [RR, ms_app, toList_some, toList_none, if_true, if_false, true_and, and_true, cond_true, sm0, sm1, sm1l, sm2, lc_lt, lc_gt, lc_eq, Int.toNat_natCast, Int.reduceToNat, Nat.reduceAdd, Nat.reduceEqDiff, Int.reduceLT, Int.reduceEq, Int.reduceNeg, Int.reduceAdd, Int.reduceMul, Nat.reduceMul, ms_n, ms_i, ms_l, ms_p, PX]
          refine push _ ?_
          rw [if_neg (by omega), if_neg (by omega), if_pos (by omega), fr 24 p rfl, g4]
        · simp (decide := true) only [RR, ms_app, toList_some, toList_none, if_true, if_false, true_and, and_true, cond_true, sm0, sm1, sm1l, sm2, lc_lt, lc_gt, lc_eq, Int.toNat_natCast, Int.reduceToNat, Nat.reduceAdd, Nat.reduceEqDiff, Int.reduceLT, Int.reduceEq, Int.reduceNeg, Int.reduceAdd, Int.reduceMul, Nat.reduceMul, ms_n, ms_i, ms_l, ms_p, PX]
          refine push _ ?_
          rw [if_neg (by omega), if_neg (by omega), if_neg (by omega), if_pos (by omega), fr 28 2 rfl, s1]
        · simp (decide := true) only [RR, ms_app, toList_some, toList_none, if_true, if_false, true_and, and_true, cond_true, sm0, sm1, sm1l, sm2, lc_lt, lc_gt, lc_eq, Int.toNat_natCast, Int.reduceToNat, Nat.reduceAdd, Nat.reduceEqDiff, Int.reduceLT, Int.reduceEq, Int.reduceNeg, Int.reduceAdd, Int.reduceMul, Nat.reduceMul, ms_n, ms_i, ms_l, ms_p, PX]
          refine push _ ?_
          rw [if_neg (by omega), if_neg (by omega), if_neg (by omega), if_neg (by omega), if_pos (by omega), fr 21 4 rfl, g1]
        · simp (decide := true) only [RR, ms_app, toList_some, toList_none, if_true, if_false, true_and, and_true, cond_true, sm0, sm1, sm1l, sm2, lc_lt, lc_gt, lc_eq, Int.toNat_natCast, Int.reduceToNat, Nat.reduceAdd, Nat.reduceEqDiff, Int.reduceLT, Int.reduceEq, Int.reduceNeg, Int.reduceAdd, Int.reduceMul, Nat.reduceMul, ms_n, ms_i, ms_l, ms_p, PX]
          refine push _ ?_
          rw [if_neg (by omega), if_neg (by omega), if_neg (by omega), if_neg (by omega), if_neg (by omega), if_pos (by omega), fr 26 p rfl, ht (h45 (by rw [show c = 45 by omega]; exact List.mem_cons_self ..))]
        · simp (decide := true) only [RR, ms_app, toList_some, toList_none, if_true, if_false, true_and, and_true, cond_true, sm0, sm1, sm1l, sm2, lc_lt, lc_gt, lc_eq, Int.toNat_natCast, Int.reduceToNat, Nat.reduceAdd, Nat.reduceEqDiff, Int.reduceLT, Int.reduceEq, Int.reduceNeg, Int.reduceAdd, Int.reduceMul, Nat.reduceMul, ms_n, ms_i, ms_l, ms_p, PX]
          refine push _ ?_
          rw [if_neg (by omega), if_neg (by omega), if_neg (by omega), if_neg (by omega), if_neg (by omega), if_neg (by omega), if_pos (by omega)]
        · simp (decide := true) only [RR, ms_app, toList_some, toList_none, if_true, if_false, true_and, and_true, cond_true, sm0, sm1, sm1l, sm2, lc_lt, lc_gt, lc_eq, Int.toNat_natCast, Int.reduceToNat, Nat.reduceAdd, Nat.reduceEqDiff, Int.reduceLT, Int.reduceEq, Int.reduceNeg, Int.reduceAdd, Int.reduceMul, Nat.reduceMul, ms_n, ms_i, ms_l, ms_p, PX]
          refine push _ ?_
          rw [if_neg (by omega), if_neg (by omega), if_neg (by omega), if_neg (by omega), if_neg (by omega), if_neg (by omega), if_neg (by omega), if_pos (by omega), fr 28 3 rfl, i_bit b2.1 (by omega) (by omega), Int.toNat_natCast, q2]
        · simp (decide := true) only [RR, ms_app, toList_some, toList_none, if_true, if_false, true_and, and_true, cond_true, sm0, sm1, sm1l, sm2, lc_lt, lc_gt, lc_eq, Int.toNat_natCast, Int.reduceToNat, Nat.reduceAdd, Nat.reduceEqDiff, Int.reduceLT, Int.reduceEq, Int.reduceNeg, Int.reduceAdd, Int.reduceMul, Nat.reduceMul, ms_n, ms_i, ms_l, ms_p, PX]
          refine push _ ?_
          rw [if_neg (by omega), if_neg (by omega), if_neg (by omega), if_neg (by omega), if_neg (by omega), if_neg (by omega), if_neg (by omega), if_neg (by omega), fr 28 4 rfl, i_bit b3.1 (by omega) (by omega), Int.toNat_natCast, q3]
      · -- near
        have hts : ∃ s, ts = false :: s := by
          rcases tyC_some ety with h | ⟨_, s, h, _⟩ | h | h | ⟨h, _⟩ | ⟨h, _⟩ | ⟨h, _⟩ | ⟨h, _⟩
          · omega
          · exact ⟨s, h⟩
          · omega
          · omega
          · omega
          · omega
          · omega
          · omega
        obtain ⟨s', rfl⟩ := hts
        obtain ⟨x, st', rfl, x1, x2⟩ := hV.uncons
        simp only [List.length_cons] at hlen h64
        have l0 : ((x :: st').length : Int) = (st'.length : Int) + 1 := by simp
        have l1 : Unit → w32 (((x :: st').length : Int) - 1) = (st'.length : Int) := fun _ => by rw [l0, w32_small (by omega) (by omega)]; omega
        have hS0 : σ' 22 st'.length = x := hS.1
        rw [show σ 16 k % 32 = 10 by omega, if_pos (by omega)]
        refine At.blk rfl rfl rfl fun sx => ?_
        simp (decide := true) only [RR, ms_app, toList_some, toList_none, if_true, if_false, true_and, and_true, cond_true, sm0, sm1, sm1l, sm2, lc_lt, lc_gt, lc_eq, Int.toNat_natCast, Int.reduceToNat, Nat.reduceAdd, Nat.reduceEqDiff, Int.reduceLT, Int.reduceEq, Int.reduceNeg, Int.reduceAdd, Int.reduceMul, Nat.reduceMul, ms_n, ms_i, ms_l, ms_p, PX, fxX hF', l1 (), hS0]
        rw [if_pos (by omega)]
        refine ⟨⟨by omega, by omega⟩, ?_⟩
        refine cal_of rfl (x_changed10 (C := C) hF' ((fr 3 4 rfl).trans hn) n7 hp ((fr 6 p rfl).trans hne) (hC.near hp) ?_)
        simp (decide := true) only [RR, ms_app, toList_some, toList_none, if_true, if_false, true_and, and_true, cond_true, sm0, sm1, sm1l, sm2, lc_lt, lc_gt, lc_eq, Int.toNat_natCast, Int.reduceToNat, Nat.reduceAdd, Nat.reduceEqDiff, Int.reduceLT, Int.reduceEq, Int.reduceNeg, Int.reduceAdd, Int.reduceMul, Nat.reduceMul, ms_n, ms_i, ms_l, ms_p, PX]
        refine ⟨⟨by omega, by omega⟩, ?_⟩
        refine nxt (nearV C p x :: st') _ _ ?_ (fr.setr rfl) hS.2.push
        unfold stC
        rw [if_neg (by omega), if_pos (by omega)]; rfl
      · -- not
        have hts : ∃ s, ts = true :: s := by
          rcases tyC_some ety with h | ⟨h, _⟩ | h | h | ⟨_, s, h, _⟩ | ⟨h, _⟩ | ⟨h, _⟩ | ⟨h, _⟩
          · omega
          · omega
          · omega
          · omega
          · exact ⟨s, h⟩
          · omega
          · omega
          · omega
        obtain ⟨s', rfl⟩ := hts
        obtain ⟨x, st', rfl, x1, x2⟩ := hV.uncons
        rw [if_pos rfl] at x1
        simp only [List.length_cons] at hlen h64
        have l0 : ((x :: st').length : Int) = (st'.length : Int) + 1 := by simp
        have l1 : Unit → w32 (((x :: st').length : Int) - 1) = (st'.length : Int) := fun _ => by rw [l0, w32_small (by omega) (by omega)]; omega
        have hS0 : σ' 22 st'.length = x := hS.1
        rw [show σ 16 k % 32 = 11 by omega, if_pos (by omega)]
        refine At.blk rfl rfl rfl fun sx => ?_
        simp (decide := true) only [RR, ms_app, toList_some, toList_none, if_true, if_false, true_and, and_true, cond_true, sm0, sm1, sm1l, sm2, lc_lt, lc_gt, lc_eq, Int.toNat_natCast, Int.reduceToNat, Nat.reduceAdd, Nat.reduceEqDiff, Int.reduceLT, Int.reduceEq, Int.reduceNeg, Int.reduceAdd, Int.reduceMul, Nat.reduceMul, ms_n, ms_i, ms_l, ms_p, PX, fxX hF', l1 (), hS0]
        rw [if_pos (by omega)]
        refine ⟨⟨by omega, by omega⟩, ?_⟩
        refine cal_of rfl (x_changed11 x1 ?_)
        simp (decide := true) only [RR, ms_app, toList_some, toList_none, if_true, if_false, true_and, and_true, cond_true, sm0, sm1, sm1l, sm2, lc_lt, lc_gt, lc_eq, Int.toNat_natCast, Int.reduceToNat, Nat.reduceAdd, Nat.reduceEqDiff, Int.reduceLT, Int.reduceEq, Int.reduceNeg, Int.reduceAdd, Int.reduceMul, Nat.reduceMul, ms_n, ms_i, ms_l, ms_p, PX]
        refine ⟨⟨by omega, by omega⟩, ?_⟩
        refine nxt ((1 - x) :: st') _ _ ?_ (fr.setr rfl) hS.2.push
        unfold stC
        rw [if_neg (by omega), if_neg (by omega), if_neg (by omega), if_neg (by omega), if_pos (by omega)]; rfl
      · -- two are joined
        have hts : ∃ u s, ts = u :: u :: s ∧ (10 ≤ c → u = true) := by
          rcases tyC_some ety with h | ⟨h, _⟩ | h | h | ⟨h, _⟩ | ⟨h1, s, h, _⟩ | ⟨h1, s, h, _⟩ | ⟨h1, s, h, _⟩
          · omega
          · omega
          · omega
          · omega
          · omega
          · exact ⟨_, s, h, fun h9 => by omega⟩
          · exact ⟨_, s, h, fun h9 => by omega⟩
          · exact ⟨_, s, h, fun h9 => rfl⟩
        obtain ⟨u, s', rfl, hu⟩ := hts
        obtain ⟨y, st1, rfl, y1, y2⟩ := hV.uncons
        obtain ⟨x, st', rfl, x1, x2⟩ := y2.uncons
        have yb := hV.top
        have xb := y2.top
        simp only [List.length_cons] at hlen h64
        have l0 : ((y :: x :: st').length : Int) = (st'.length : Int) + 2 := by simp; omega
        have l1 : Unit → w32 (((y :: x :: st').length : Int) + -1) = (st'.length : Int) + 1 := fun _ => by rw [l0, w32_small (by omega) (by omega)]; omega
        have l2 : Unit → w32 ((st'.length : Int) + 1 - 1) = (st'.length : Int) := fun _ => by rw [w32_small (by omega) (by omega)]; omega
        have l3 : ((st'.length : Int) + 1).toNat = st'.length + 1 := by omega
        have hS1 : σ' 22 (st'.length + 1) = y := hS.1
        have hS0 : σ' 22 st'.length = x := hS.2.1
        have fin : ∀ (v : Int) (o1 : Option mV), v = joinC c x y → At (d + 2) 100 7 [some (.inr (.inr 21)), some (.inr (.inr 15)), some (.inl (r : Int)), some (.inl (p : Int)), some (.inr (.inr 28)), some (.inl ((st'.length : Int) + 1)), some (.inl (k : Int)), o1] [.inl v, .inl (st'.length : Int), .inr (.inr 22)] σ' K := by
          intro v o1 hvv
          refine At.blk rfl rfl rfl fun sx => ?_
          simp (decide := true) only [RR, ms_app, toList_some, toList_none, if_true, if_false, true_and, and_true, cond_true, sm0, sm1, sm1l, sm2, lc_lt, lc_gt, lc_eq, Int.toNat_natCast, Int.reduceToNat, Nat.reduceAdd, Nat.reduceEqDiff, Int.reduceLT, Int.reduceEq, Int.reduceNeg, Int.reduceAdd, Int.reduceMul, Nat.reduceMul, ms_n, ms_i, ms_l, ms_p, PX]
          refine ⟨⟨by omega, by omega⟩, ?_⟩
          have := nxt (v :: st') (mj_set σ' 22 st'.length v) o1 (by
            unfold stC
            rw [if_neg (by omega), if_neg (by omega), if_neg (by omega), if_neg (by omega), if_neg (by omega), hvv]; rfl) (fr.setr rfl) hS.2.2.push
          rw [show ((v :: st').length : Int) = (st'.length : Int) + 1 by simp] at this
          exact this
        have sm : σ 16 k % 32 = j := by omega
        rw [sm, if_pos (by omega)]
        refine At.blk rfl rfl rfl fun sx => ?_
        simp (decide := true) only [RR, ms_app, toList_some, toList_none, if_true, if_false, true_and, and_true, cond_true, sm0, sm1, sm1l, sm2, lc_lt, lc_gt, lc_eq, Int.toNat_natCast, Int.reduceToNat, Nat.reduceAdd, Nat.reduceEqDiff, Int.reduceLT, Int.reduceEq, Int.reduceNeg, Int.reduceAdd, Int.reduceMul, Nat.reduceMul, ms_n, ms_i, ms_l, ms_p, PX, fxX hF']
        rw [if_pos (by omega)]
        refine At.blk rfl rfl rfl fun sx => ?_
        simp (decide := true) only [RR, ms_app, toList_some, toList_none, if_true, if_false, true_and, and_true, cond_true, sm0, sm1, sm1l, sm2, lc_lt, lc_gt, lc_eq, Int.toNat_natCast, Int.reduceToNat, Nat.reduceAdd, Nat.reduceEqDiff, Int.reduceLT, Int.reduceEq, Int.reduceNeg, Int.reduceAdd, Int.reduceMul, Nat.reduceMul, ms_n, ms_i, ms_l, ms_p, PX, fxX hF', l1 (), l2 (), l3, hS0, hS1]
        rw [if_pos (by omega)]
        by_cases hj : 17 < j
        · rw [if_pos hj]
          refine At.blk rfl rfl rfl fun sx => ?_
          simp (decide := true) only [RR, ms_app, toList_some, toList_none, if_true, if_false, true_and, and_true, cond_true, sm0, sm1, sm1l, sm2, lc_lt, lc_gt, lc_eq, Int.toNat_natCast, Int.reduceToNat, Nat.reduceAdd, Nat.reduceEqDiff, Int.reduceLT, Int.reduceEq, Int.reduceNeg, Int.reduceAdd, Int.reduceMul, Nat.reduceMul, ms_n, ms_i, ms_l, ms_p, PX, fxX hF', l1 (), l2 (), l3, hS0, hS1]
          refine ⟨⟨by omega, by omega⟩, ⟨by omega, by omega⟩, ?_⟩
          refine cal_of rfl (x_compared (by omega) (fun h9 => ?_) ?_)
          · have := hu (by omega)
            rw [this, if_pos rfl] at x1 y1
            exact ⟨x1, y1⟩
          · simp (decide := true) only [RR, ms_app, toList_some, toList_none, if_true, if_false, true_and, and_true, cond_true, sm0, sm1, sm1l, sm2, lc_lt, lc_gt, lc_eq, Int.toNat_natCast, Int.reduceToNat, Nat.reduceAdd, Nat.reduceEqDiff, Int.reduceLT, Int.reduceEq, Int.reduceNeg, Int.reduceAdd, Int.reduceMul, Nat.reduceMul, ms_n, ms_i, ms_l, ms_p, PX]
            exact fin _ _ (by rw [j3])
        · rw [if_neg hj]
          refine ⟨⟨by omega, by omega⟩, ⟨by omega, by omega⟩, ?_⟩
          refine cal_of rfl (x_joined xb yb (by omega) ?_)
          simp (decide := true) only [RR, ms_app, toList_some, toList_none, if_true, if_false, true_and, and_true, cond_true, sm0, sm1, sm1l, sm2, lc_lt, lc_gt, lc_eq, Int.toNat_natCast, Int.reduceToNat, Nat.reduceAdd, Nat.reduceEqDiff, Int.reduceLT, Int.reduceEq, Int.reduceNeg, Int.reduceAdd, Int.reduceMul, Nat.reduceMul, ms_n, ms_i, ms_l, ms_p, PX]
          exact fin _ _ (by rw [j3])
  exact loop cs f [] [] σ none Fr.same rfl r4 id trivial (by decide) hty trivial rfl
end
