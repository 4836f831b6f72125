section
variable {d : Nat} {σ : mM} {K : Option mV → mM → Prop} {N : Nat} {t : Nat → Int} {s n : Nat} {g : Bool}
/-- the part named at s: p, or a fault -/
theorem x_partHere {mk : Int} (hm : 0 ≤ mk ∧ mk < 128) (hF : Fix σ) (hT : TxX σ N t) (hX : TX σ N t s g) (hn : σ 11 4 = (n : Int)) (n7 : n ≤ 7)
    (h1 : ∀ e p, IsNa N t s g e → σ 20 1 = 1 → σ 20 3 = (e : Int) → p < n → σ 12 p = enc5 (nmL t s (e - s)) → (∀ q, q < p → σ 12 q ≠ enc5 (nmL t s (e - s))) → bit mk p ≠ 1 → K (some (.inl (p : Int))) σ)
    (h0 : ∀ k x, (NaF N t s g k x ∨ (k = 3 ∧ x = (s : Int) ∧ ∃ e, IsNa N t s g e ∧ ((∀ p, p < n → σ 12 p ≠ enc5 (nmL t s (e - s))) ∨ ∃ p, p < n ∧ σ 12 p = enc5 (nmL t s (e - s)) ∧ (∀ q, q < p → σ 12 q ≠ enc5 (nmL t s (e - s))) ∧ bit mk p = 1))) → K (some (.inl (-1))) (mj_set (mj_set σ 19 2 k) 19 3 x)) : Mt (d + 4) 48 [.inr (.inr 19), .inl mk] σ K := by
  refine Mt.go (lv := [some (.inr (.inr 19)), some (.inl mk), none, none]) rfl rfl rfl ?_
  refine At.blk rfl rfl rfl fun sx => ?_
  simp (decide := true) only [RR, ms_app, toList_some, toList_none, if_true, if_false, true_and, and_true, cond_true, sm0, sm1, sm1l, sm2, lc_lt, lc_gt, lc_eq, Int.toNat_natCast, Int.reduceToNat, Nat.reduceAdd, Nat.reduceEqDiff, Int.reduceLT, Int.reduceEq, Int.reduceNeg, Int.reduceAdd, Int.reduceMul, Nat.reduceMul, ms_n, ms_i, ms_l, ms_p, PX]
  refine cal_of rfl (x_nameHere hF hT hX (fun e hi q1 q3 hne => ?_) (fun k x hf => ?_))
  · simp (decide := true) only [RR, ms_app, toList_some, toList_none, if_true, if_false, true_and, and_true, cond_true, sm0, sm1, sm1l, sm2, lc_lt, lc_gt, lc_eq, Int.toNat_natCast, Int.reduceToNat, Nat.reduceAdd, Nat.reduceEqDiff, Int.reduceLT, Int.reduceEq, Int.reduceNeg, Int.reduceAdd, Int.reduceMul, Nat.reduceMul, ms_n, ms_i, ms_l, ms_p, PX]
    rw [if_neg hne]
    have two : ∀ (o : Option mV), ((∀ p, p < n → σ 12 p ≠ enc5 (nmL t s (e - s))) ∨ ∃ p, p < n ∧ σ 12 p = enc5 (nmL t s (e - s)) ∧ (∀ q, q < p → σ 12 q ≠ enc5 (nmL t s (e - s))) ∧ bit mk p = 1) → At (d + 3) 48 2 [some (.inr (.inr 19)), some (.inl mk), some (.inl (enc5 (nmL t s (e - s)))), o] [] σ K := by
      intro o h
      refine At.blk rfl rfl rfl fun sx => ?_
      simp (decide := true) only [RR, ms_app, toList_some, toList_none, if_true, if_false, true_and, and_true, cond_true, sm0, sm1, sm1l, sm2, lc_lt, lc_gt, lc_eq, Int.toNat_natCast, Int.reduceToNat, Nat.reduceAdd, Nat.reduceEqDiff, Int.reduceLT, Int.reduceEq, Int.reduceNeg, Int.reduceAdd, Int.reduceMul, Nat.reduceMul, ms_n, ms_i, ms_l, ms_p, PX, fxX hF, hX.st]
      refine cal_of rfl (x_fail ?_)
      simp (decide := true) only [RR, ms_app, toList_some, toList_none, if_true, if_false, true_and, and_true, cond_true, sm0, sm1, sm1l, sm2, lc_lt, lc_gt, lc_eq, Int.toNat_natCast, Int.reduceToNat, Nat.reduceAdd, Nat.reduceEqDiff, Int.reduceLT, Int.reduceEq, Int.reduceNeg, Int.reduceAdd, Int.reduceMul, Nat.reduceMul, ms_n, ms_i, ms_l, ms_p, PX]
      exact h0 3 s (Or.inr ⟨rfl, rfl, e, hi, h⟩)
    refine At.blk rfl rfl rfl fun sx => ?_
    simp (decide := true) only [RR, ms_app, toList_some, toList_none, if_true, if_false, true_and, and_true, cond_true, sm0, sm1, sm1l, sm2, lc_lt, lc_gt, lc_eq, Int.toNat_natCast, Int.reduceToNat, Nat.reduceAdd, Nat.reduceEqDiff, Int.reduceLT, Int.reduceEq, Int.reduceNeg, Int.reduceAdd, Int.reduceMul, Nat.reduceMul, ms_n, ms_i, ms_l, ms_p, PX, fxX hF]
    refine cal_of rfl (x_find hF hn n7 (fun p hp he hq => ?_) (fun hq => ?_))
    · have eb : i_and (i_shr mk (p : Int)) 1 = bit mk p := by
        rw [i_bit (by omega) (by omega) (by omega), Int.toNat_natCast]
      simp (decide := true) only [RR, ms_app, toList_some, toList_none, if_true, if_false, true_and, and_true, cond_true, sm0, sm1, sm1l, sm2, lc_lt, lc_gt, lc_eq, Int.toNat_natCast, Int.reduceToNat, Nat.reduceAdd, Nat.reduceEqDiff, Int.reduceLT, Int.reduceEq, Int.reduceNeg, Int.reduceAdd, Int.reduceMul, Nat.reduceMul, ms_n, ms_i, ms_l, ms_p, PX, eb]
      rw [if_neg (by omega)]
      by_cases c : bit mk p = 1
      · rw [if_pos c]
        exact two _ (Or.inr ⟨p, hp, he, hq, c⟩)
      · rw [if_neg c]
        refine At.blk rfl rfl rfl fun sx => ?_
        simp (decide := true) only [RR, ms_app, toList_some, toList_none, if_true, if_false, true_and, and_true, cond_true, sm0, sm1, sm1l, sm2, lc_lt, lc_gt, lc_eq, Int.toNat_natCast, Int.reduceToNat, Nat.reduceAdd, Nat.reduceEqDiff, Int.reduceLT, Int.reduceEq, Int.reduceNeg, Int.reduceAdd, Int.reduceMul, Nat.reduceMul, ms_n, ms_i, ms_l, ms_p, PX]
        exact h1 e p hi q1 q3 hp he hq c
    · simp (decide := true) only [RR, ms_app, toList_some, toList_none, if_true, if_false, true_and, and_true, cond_true, sm0, sm1, sm1l, sm2, lc_lt, lc_gt, lc_eq, Int.toNat_natCast, Int.reduceToNat, Nat.reduceAdd, Nat.reduceEqDiff, Int.reduceLT, Int.reduceEq, Int.reduceNeg, Int.reduceAdd, Int.reduceMul, Nat.reduceMul, ms_n, ms_i, ms_l, ms_p, PX]
      exact two _ (Or.inl hq)
  · simp (decide := true) only [RR, ms_app, toList_some, toList_none, if_true, if_false, true_and, and_true, cond_true, sm0, sm1, sm1l, sm2, lc_lt, lc_gt, lc_eq, Int.toNat_natCast, Int.reduceToNat, Nat.reduceAdd, Nat.reduceEqDiff, Int.reduceLT, Int.reduceEq, Int.reduceNeg, Int.reduceAdd, Int.reduceMul, Nat.reduceMul, ms_n, ms_i, ms_l, ms_p, PX]
    exact h0 k x (Or.inl hf)
end
