section
variable {d : Nat} {σ : mM} {K : Option mV → mM → Prop} {N : Nat} {t : Nat → Int} {s n : Nat} {g : Bool}
theorem m_oneOf (hF : Fix σ) (hT : TxM σ N t) (hb : σ 146 5 = 0) (hP : PosM σ N t s g) (hn : σ 173 0 = (n : Int)) (n7 : n ≤ 7)
    (h1 : ∀ σ' e s' p, IsNa N t s g e → Skp N t e s' → PosM σ' N t s' (decide (s' = e)) → σ' 146 34 = (s : Int) → σ' 146 5 = 0 → σ' 146 6 = σ 146 6 → Fr [] naT σ σ' → p < n → σ 174 p = enc27 (nmL t s (e - s)) 0 → (∀ q, q < p → σ 174 q ≠ enc27 (nmL t s (e - s)) 0) → K (some (.inl (p : Int))) σ')
    (h0 : ∀ σ' k x, (NaF N t s g k x ∨ (k = 3 ∧ x = (s : Int) ∧ ∃ e, IsNa N t s g e ∧ ∀ p, p < n → σ 174 p ≠ enc27 (nmL t s (e - s)) 0)) → σ' 146 5 = k → σ' 146 6 = x → Fr [] naT σ σ' → K (some (.inl 0)) σ') : Mt (d + 5) 169 [.inr (.inr 146)] σ K := by
  refine Mt.go (lv := [some (.inr (.inr 146)), none, none, none]) rfl rfl rfl ?_
  have bad : ∀ (σ' : mM) (v i : Int) (k x : Int), k ≠ 0 → (NaF N t s g k x ∨ (k = 3 ∧ x = (s : Int) ∧ ∃ e, IsNa N t s g e ∧ ∀ p, p < n → σ 174 p ≠ enc27 (nmL t s (e - s)) 0)) → σ' 146 5 = k → σ' 146 6 = x → Fr [] naT σ σ' → At (d + 4) 169 1 [some (.inr (.inr 146)), some (.inr (.inl v)), none, some (.inl i)] [] σ' K := by
    intro σ' v i k x hk h e5 e6 f
    refine At.blk rfl rfl rfl fun sx => ?_
    simp (decide := true) only [RR, ms_app, toList_some, toList_none, if_true, if_false, true_and, and_true, cond_true, sm0, sm1, sm1l, sm2, lc_lt, lc_gt, lc_eq, Int.toNat_natCast, Int.reduceToNat, Nat.reduceAdd, Nat.reduceEqDiff, Int.reduceLT, Int.reduceEq, Int.reduceNeg, Int.reduceAdd, Int.reduceMul, Nat.reduceMul, ms_n, ms_i, ms_l, ms_p, PM, e5]
    rw [if_neg hk]
    refine At.blk rfl rfl rfl fun sx => ?_
    simp (decide := true) only [RR, ms_app, toList_some, toList_none, if_true, if_false, true_and, and_true, cond_true, sm0, sm1, sm1l, sm2, lc_lt, lc_gt, lc_eq, Int.toNat_natCast, Int.reduceToNat, Nat.reduceAdd, Nat.reduceEqDiff, Int.reduceLT, Int.reduceEq, Int.reduceNeg, Int.reduceAdd, Int.reduceMul, Nat.reduceMul, ms_n, ms_i, ms_l, ms_p, PM]
    refine At.blk rfl rfl rfl fun sx => ?_
    simp (decide := true) only [RR, ms_app, toList_some, toList_none, if_true, if_false, true_and, and_true, cond_true, sm0, sm1, sm1l, sm2, lc_lt, lc_gt, lc_eq, Int.toNat_natCast, Int.reduceToNat, Nat.reduceAdd, Nat.reduceEqDiff, Int.reduceLT, Int.reduceEq, Int.reduceNeg, Int.reduceAdd, Int.reduceMul, Nat.reduceMul, ms_n, ms_i, ms_l, ms_p, PM]
    exact h0 σ' k x h e5 e6 f
  refine At.blk rfl rfl rfl fun sx => ?_
  simp (decide := true) only [RR, ms_app, toList_some, toList_none, if_true, if_false, true_and, and_true, cond_true, sm0, sm1, sm1l, sm2, lc_lt, lc_gt, lc_eq, Int.toNat_natCast, Int.reduceToNat, Nat.reduceAdd, Nat.reduceEqDiff, Int.reduceLT, Int.reduceEq, Int.reduceNeg, Int.reduceAdd, Int.reduceMul, Nat.reduceMul, ms_n, ms_i, ms_l, ms_p, PM]
  refine cal_of rfl (m_name hF hT hb hP (fun σ1 e s' hi hs p1 e34 e5 e6 f1 => ?_) (fun σ1 x hf e5 e6 f1 => ?_))
  · have hF1 := hF.fr f1 rfl
    have en : σ1 173 0 = (n : Int) := (f1 173 0 rfl).trans hn
    have er : ∀ q, σ1 174 q = σ 174 q := fun q => f1 174 q rfl
    simp (decide := true) only [RR, ms_app, toList_some, toList_none, if_true, if_false, true_and, and_true, cond_true, sm0, sm1, sm1l, sm2, lc_lt, lc_gt, lc_eq, Int.toNat_natCast, Int.reduceToNat, Nat.reduceAdd, Nat.reduceEqDiff, Int.reduceLT, Int.reduceEq, Int.reduceNeg, Int.reduceAdd, Int.reduceMul, Nat.reduceMul, ms_n, ms_i, ms_l, ms_p, PM]
    refine cal_of rfl (m_nameOf hF1 en n7 (fun p hp he hq => ?_) (fun hq => ?_))
    · simp (decide := true) only [RR, ms_app, toList_some, toList_none, if_true, if_false, true_and, and_true, cond_true, sm0, sm1, sm1l, sm2, lc_lt, lc_gt, lc_eq, Int.toNat_natCast, Int.reduceToNat, Nat.reduceAdd, Nat.reduceEqDiff, Int.reduceLT, Int.reduceEq, Int.reduceNeg, Int.reduceAdd, Int.reduceMul, Nat.reduceMul, ms_n, ms_i, ms_l, ms_p, PM, e5]
      rw [if_neg (by omega)]
      refine At.blk rfl rfl rfl fun sx => ?_
      simp (decide := true) only [RR, ms_app, toList_some, toList_none, if_true, if_false, true_and, and_true, cond_true, sm0, sm1, sm1l, sm2, lc_lt, lc_gt, lc_eq, Int.toNat_natCast, Int.reduceToNat, Nat.reduceAdd, Nat.reduceEqDiff, Int.reduceLT, Int.reduceEq, Int.reduceNeg, Int.reduceAdd, Int.reduceMul, Nat.reduceMul, ms_n, ms_i, ms_l, ms_p, PM, e5]
      refine At.blk rfl rfl rfl fun sx => ?_
      simp (decide := true) only [RR, ms_app, toList_some, toList_none, if_true, if_false, true_and, and_true, cond_true, sm0, sm1, sm1l, sm2, lc_lt, lc_gt, lc_eq, Int.toNat_natCast, Int.reduceToNat, Nat.reduceAdd, Nat.reduceEqDiff, Int.reduceLT, Int.reduceEq, Int.reduceNeg, Int.reduceAdd, Int.reduceMul, Nat.reduceMul, ms_n, ms_i, ms_l, ms_p, PM]
      exact h1 σ1 e s' p hi hs p1 e34 e5 e6 f1 hp (by rw [← er]; exact he) (fun q hq2 => by rw [← er]; exact hq q hq2)
    · simp (decide := true) only [RR, ms_app, toList_some, toList_none, if_true, if_false, true_and, and_true, cond_true, sm0, sm1, sm1l, sm2, lc_lt, lc_gt, lc_eq, Int.toNat_natCast, Int.reduceToNat, Nat.reduceAdd, Nat.reduceEqDiff, Int.reduceLT, Int.reduceEq, Int.reduceNeg, Int.reduceAdd, Int.reduceMul, Nat.reduceMul, ms_n, ms_i, ms_l, ms_p, PM, e5, e34]
      refine cal_of rfl (m_fail e5 ?_)
      simp (decide := true) only [RR, ms_app, toList_some, toList_none, if_true, if_false, true_and, and_true, cond_true, sm0, sm1, sm1l, sm2, lc_lt, lc_gt, lc_eq, Int.toNat_natCast, Int.reduceToNat, Nat.reduceAdd, Nat.reduceEqDiff, Int.reduceLT, Int.reduceEq, Int.reduceNeg, Int.reduceAdd, Int.reduceMul, Nat.reduceMul, ms_n, ms_i, ms_l, ms_p, PM]
      exact bad _ _ _ 3 s (by decide) (Or.inr ⟨rfl, rfl, e, hi, fun p hp => by rw [← er]; exact hq p hp⟩) rfl rfl ((f1.set rfl).set rfl)
  · have hF1 := hF.fr f1 rfl
    have en : σ1 173 0 = (n : Int) := (f1 173 0 rfl).trans hn
    simp (decide := true) only [RR, ms_app, toList_some, toList_none, if_true, if_false, true_and, and_true, cond_true, sm0, sm1, sm1l, sm2, lc_lt, lc_gt, lc_eq, Int.toNat_natCast, Int.reduceToNat, Nat.reduceAdd, Nat.reduceEqDiff, Int.reduceLT, Int.reduceEq, Int.reduceNeg, Int.reduceAdd, Int.reduceMul, Nat.reduceMul, ms_n, ms_i, ms_l, ms_p, PM]
    refine cal_of rfl (m_nameOf hF1 en n7 (fun p hp he hq => ?_) (fun hq => ?_))
    · simp (decide := true) only [RR, ms_app, toList_some, toList_none, if_true, if_false, true_and, and_true, cond_true, sm0, sm1, sm1l, sm2, lc_lt, lc_gt, lc_eq, Int.toNat_natCast, Int.reduceToNat, Nat.reduceAdd, Nat.reduceEqDiff, Int.reduceLT, Int.reduceEq, Int.reduceNeg, Int.reduceAdd, Int.reduceMul, Nat.reduceMul, ms_n, ms_i, ms_l, ms_p, PM, e5]
      exact bad σ1 _ _ 1 x (by decide) (Or.inl hf) e5 e6 f1
    · simp (decide := true) only [RR, ms_app, toList_some, toList_none, if_true, if_false, true_and, and_true, cond_true, sm0, sm1, sm1l, sm2, lc_lt, lc_gt, lc_eq, Int.toNat_natCast, Int.reduceToNat, Nat.reduceAdd, Nat.reduceEqDiff, Int.reduceLT, Int.reduceEq, Int.reduceNeg, Int.reduceAdd, Int.reduceMul, Nat.reduceMul, ms_n, ms_i, ms_l, ms_p, PM, e5]
      exact bad σ1 _ _ 1 x (by decide) (Or.inl hf) e5 e6 f1
end
