theorem enc5_inj : ∀ a b : List Int, (∀ l ∈ a, 1 ≤ l ∧ l ≤ 26) → (∀ l ∈ b, 1 ≤ l ∧ l ≤ 26) → enc5 a = enc5 b → a = b
  | [], [], _, _, _ => rfl
  | [], y :: b, _, hb, h => by
    have h1 := hb y List.mem_cons_self
    have h2 := (enc5_nn b (fun l hl => hb l (List.mem_cons_of_mem _ hl))).1
    have h : 0 = y + 32 * enc5 b := h
    omega
  | x :: a, [], ha, _, h => by
    have h1 := ha x List.mem_cons_self
    have h2 := (enc5_nn a (fun l hl => ha l (List.mem_cons_of_mem _ hl))).1
    have h : x + 32 * enc5 a = 0 := h
    omega
  | x :: a, y :: b, ha, hb, h => by
    have h1 := ha x List.mem_cons_self
    have h2 := hb y List.mem_cons_self
    have h : x + 32 * enc5 a = y + 32 * enc5 b := h
    have e := enc5_inj a b (fun l hl => ha l (List.mem_cons_of_mem _ hl)) (fun l hl => hb l (List.mem_cons_of_mem _ hl)) (by omega)
    rw [e] at h ⊢
    rw [show x = y by omega]
theorem enc27r_inj : ∀ a b : List Int, (∀ l ∈ a, 1 ≤ l ∧ l ≤ 26) → (∀ l ∈ b, 1 ≤ l ∧ l ≤ 26) → enc27r a = enc27r b → a = b
  | [], [], _, _, _ => rfl
  | [], y :: b, _, hb, h => by
    have := (enc27r_step hb).1
    rw [← h] at this
    exact absurd this (by show ¬(0 : Int) < 0; omega)
  | x :: a, [], ha, _, h => by
    have := (enc27r_step ha).1
    rw [h] at this
    exact absurd this (by show ¬(0 : Int) < 0; omega)
  | x :: a, y :: b, ha, hb, h => by
    obtain ⟨_, a1, a2⟩ := enc27r_step ha
    obtain ⟨_, b1, b2⟩ := enc27r_step hb
    rw [h] at a1 a2
    have e := enc27r_inj a b (fun l hl => ha l (List.mem_cons_of_mem _ hl)) (fun l hl => hb l (List.mem_cons_of_mem _ hl)) (a1.symm.trans b1)
    rw [e, a2.symm.trans b2]
theorem enc27_inj {a b : List Int} (ha : ∀ l ∈ a, 1 ≤ l ∧ l ≤ 26) (hb : ∀ l ∈ b, 1 ≤ l ∧ l ≤ 26) (h : enc27 a 0 = enc27 b 0) : a = b := by
  have e1 := enc27_rev a.reverse
  have e2 := enc27_rev b.reverse
  rw [List.reverse_reverse] at e1 e2
  have := enc27r_inj a.reverse b.reverse (fun l hl => ha l (List.mem_reverse.mp hl)) (fun l hl => hb l (List.mem_reverse.mp hl)) (by rw [← e1, ← e2, h])
  rw [← List.reverse_reverse a, this, List.reverse_reverse]
section
variable {d : Nat} {σ : mM} {K : Option mV → mM → Prop} {n : Nat} {v : Int}
theorem x_find (hF : Fix σ) (hn : σ 11 4 = (n : Int)) (n7 : n ≤ 7) (h1 : ∀ p, p < n → σ 12 p = v → (∀ q, q < p → σ 12 q ≠ v) → K (some (.inl (p : Int))) σ) (h0 : (∀ p, p < n → σ 12 p ≠ v) → K (some (.inl (-1))) σ) : Mt (d + 1) 4 [.inr (.inr 11), .inl v] σ K := by
  refine Mt.go (lv := [some (.inr (.inr 11)), some (.inl v), none]) rfl rfl rfl ?_
  have loop : ∀ m k : Nat, n - k = m → k ≤ n → (∀ q, q < k → σ 12 q ≠ v) → At d 4 1 [some (.inr (.inr 11)), some (.inl v), some (.inl (k : Int))] [] σ K := by
    intro m
    induction m with
    | zero =>
      intro k hk hk2 hq
      obtain rfl : k = n := by omega
      refine At.blk rfl rfl rfl fun sx => ?_
      simp (decide := true) only [RR, ms_app, toList_some, toList_none, if_true, if_false, true_and, and_true, cond_true, sm0, sm1, sm1l, sm2, lc_lt, lc_gt, lc_eq, Int.toNat_natCast, Int.reduceToNat, Nat.reduceAdd, Nat.reduceEqDiff, Int.reduceLT, Int.reduceEq, Int.reduceNeg, Int.reduceAdd, Int.reduceMul, Nat.reduceMul, ms_n, ms_i, ms_l, ms_p, PX, fxX hF, hn]
      rw [if_neg (by omega)]
      refine At.blk rfl rfl rfl fun sx => ?_
      simp (decide := true) only [RR, ms_app, toList_some, toList_none, if_true, if_false, true_and, and_true, cond_true, sm0, sm1, sm1l, sm2, lc_lt, lc_gt, lc_eq, Int.toNat_natCast, Int.reduceToNat, Nat.reduceAdd, Nat.reduceEqDiff, Int.reduceLT, Int.reduceEq, Int.reduceNeg, Int.reduceAdd, Int.reduceMul, Nat.reduceMul, ms_n, ms_i, ms_l, ms_p, PX]
      exact h0 hq
    | succ m ih =>
      intro k hk hk2 hq
      have w1 : Unit → w32 ((k : Int) + 1) = ((k + 1 : Nat) : Int) := fun _ => by rw [w32_small (by omega) (by omega)]; omega
      refine At.blk rfl rfl rfl fun sx => ?_
      simp (decide := true) only [RR, ms_app, toList_some, toList_none, if_true, if_false, true_and, and_true, cond_true, sm0, sm1, sm1l, sm2, lc_lt, lc_gt, lc_eq, Int.toNat_natCast, Int.reduceToNat, Nat.reduceAdd, Nat.reduceEqDiff, Int.reduceLT, Int.reduceEq, Int.reduceNeg, Int.reduceAdd, Int.reduceMul, Nat.reduceMul, ms_n, ms_i, ms_l, ms_p, PX, fxX hF, hn]
      rw [if_pos (by omega)]
      refine ⟨⟨by omega, by omega⟩, ?_⟩
      by_cases c : σ 12 k = v
      · rw [if_pos c]
        exact h1 k (by omega) c hq
      · rw [if_neg c]
        refine At.blk rfl rfl rfl fun sx => ?_
        simp (decide := true) only [RR, ms_app, toList_some, toList_none, if_true, if_false, true_and, and_true, cond_true, sm0, sm1, sm1l, sm2, lc_lt, lc_gt, lc_eq, Int.toNat_natCast, Int.reduceToNat, Nat.reduceAdd, Nat.reduceEqDiff, Int.reduceLT, Int.reduceEq, Int.reduceNeg, Int.reduceAdd, Int.reduceMul, Nat.reduceMul, ms_n, ms_i, ms_l, ms_p, PX, w1 ()]
        refine ih (k + 1) (by omega) (by omega) (fun q hq2 => ?_)
        by_cases e : q = k
        · rw [e]; exact c
        · exact hq q (by omega)
  refine At.blk rfl rfl rfl fun sx => ?_
  simp (decide := true) only [RR, ms_app, toList_some, toList_none, if_true, if_false, true_and, and_true, cond_true, sm0, sm1, sm1l, sm2, lc_lt, lc_gt, lc_eq, Int.toNat_natCast, Int.reduceToNat, Nat.reduceAdd, Nat.reduceEqDiff, Int.reduceLT, Int.reduceEq, Int.reduceNeg, Int.reduceAdd, Int.reduceMul, Nat.reduceMul, ms_n, ms_i, ms_l, ms_p, PX]
  exact loop n 0 rfl (by omega) (fun q h => absurd h (by omega))
theorem m_nameOf (hF : Fix σ) (hn : σ 173 0 = (n : Int)) (n7 : n ≤ 7) (h1 : ∀ p, p < n → σ 174 p = v → (∀ q, q < p → σ 174 q ≠ v) → K (some (.inl (p : Int))) σ) (h0 : (∀ p, p < n → σ 174 p ≠ v) → K (some (.inl (-1))) σ) : Mt (d + 1) 168 [.inr (.inr 146), .inr (.inl v)] σ K := by
  refine Mt.go (lv := [some (.inr (.inr 146)), some (.inr (.inl v)), none, none]) rfl rfl rfl ?_
  have loop : ∀ m k : Nat, n - k = m → k ≤ n → (∀ q, q < k → σ 174 q ≠ v) → At d 168 1 [some (.inr (.inr 146)), some (.inr (.inl v)), none, some (.inl (k : Int))] [] σ K := by
    intro m
    induction m with
    | zero =>
      intro k hk hk2 hq
      obtain rfl : k = n := by omega
      refine At.blk rfl rfl rfl fun sx => ?_
      simp (decide := true) only [RR, ms_app, toList_some, toList_none, if_true, if_false, true_and, and_true, cond_true, sm0, sm1, sm1l, sm2, lc_lt, lc_gt, lc_eq, Int.toNat_natCast, Int.reduceToNat, Nat.reduceAdd, Nat.reduceEqDiff, Int.reduceLT, Int.reduceEq, Int.reduceNeg, Int.reduceAdd, Int.reduceMul, Nat.reduceMul, ms_n, ms_i, ms_l, ms_p, PM, fxM hF, hn]
      rw [if_neg (by omega)]
      refine At.blk rfl rfl rfl fun sx => ?_
      simp (decide := true) only [RR, ms_app, toList_some, toList_none, if_true, if_false, true_and, and_true, cond_true, sm0, sm1, sm1l, sm2, lc_lt, lc_gt, lc_eq, Int.toNat_natCast, Int.reduceToNat, Nat.reduceAdd, Nat.reduceEqDiff, Int.reduceLT, Int.reduceEq, Int.reduceNeg, Int.reduceAdd, Int.reduceMul, Nat.reduceMul, ms_n, ms_i, ms_l, ms_p, PM]
      exact h0 hq
    | succ m ih =>
      intro k hk hk2 hq
      have w1 : Unit → w32 ((k : Int) + 1) = ((k + 1 : Nat) : Int) := fun _ => by rw [w32_small (by omega) (by omega)]; omega
      refine At.blk rfl rfl rfl fun sx => ?_
      simp (decide := true) only [RR, ms_app, toList_some, toList_none, if_true, if_false, true_and, and_true, cond_true, sm0, sm1, sm1l, sm2, lc_lt, lc_gt, lc_eq, Int.toNat_natCast, Int.reduceToNat, Nat.reduceAdd, Nat.reduceEqDiff, Int.reduceLT, Int.reduceEq, Int.reduceNeg, Int.reduceAdd, Int.reduceMul, Nat.reduceMul, ms_n, ms_i, ms_l, ms_p, PM, fxM hF, hn]
      rw [if_pos (by omega)]
      refine ⟨⟨by omega, by omega⟩, ?_⟩
      by_cases c : σ 174 k = v
      · rw [if_pos c]
        exact h1 k (by omega) c hq
      · rw [if_neg c]
        refine At.blk rfl rfl rfl fun sx => ?_
        simp (decide := true) only [RR, ms_app, toList_some, toList_none, if_true, if_false, true_and, and_true, cond_true, sm0, sm1, sm1l, sm2, lc_lt, lc_gt, lc_eq, Int.toNat_natCast, Int.reduceToNat, Nat.reduceAdd, Nat.reduceEqDiff, Int.reduceLT, Int.reduceEq, Int.reduceNeg, Int.reduceAdd, Int.reduceMul, Nat.reduceMul, ms_n, ms_i, ms_l, ms_p, PM, w1 ()]
        refine ih (k + 1) (by omega) (by omega) (fun q hq2 => ?_)
        by_cases e : q = k
        · rw [e]; exact c
        · exact hq q (by omega)
  refine At.blk rfl rfl rfl fun sx => ?_
  simp (decide := true) only [RR, ms_app, toList_some, toList_none, if_true, if_false, true_and, and_true, cond_true, sm0, sm1, sm1l, sm2, lc_lt, lc_gt, lc_eq, Int.toNat_natCast, Int.reduceToNat, Nat.reduceAdd, Nat.reduceEqDiff, Int.reduceLT, Int.reduceEq, Int.reduceNeg, Int.reduceAdd, Int.reduceMul, Nat.reduceMul, ms_n, ms_i, ms_l, ms_p, PM]
  exact loop n 0 rfl (by omega) (fun q h => absurd h (by omega))
end
