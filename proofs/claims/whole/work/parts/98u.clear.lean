section
variable {d : Nat} {σ : mM} {K : Option mV → mM → Prop}
theorem x_zero14 (hK : ∀ σ', Fr [14] [] σ σ' → (∀ k, k < 7 → σ' 14 k = 0) → K none σ') : Mt (d + 1) 280 [.inr (.inr 14), .inl 0] σ K := by
  refine Mt.go (lv := [some (.inr (.inr 14)), some (.inl 0), none, none]) rfl rfl rfl ?_
  refine At.blk rfl rfl rfl fun sx => ?_
  simp (decide := true) only [RR, ms_app, toList_some, toList_none, if_true, if_false, true_and, and_true, cond_true, sm0, sm1, sm1l, sm2, lc_lt, lc_gt, lc_eq, Int.toNat_natCast, Int.reduceToNat, Nat.reduceAdd, Nat.reduceEqDiff, Int.reduceLT, Int.reduceEq, Int.reduceNeg, Int.reduceAdd, Int.reduceMul, Nat.reduceMul, ms_n, ms_i, ms_l, ms_p, PX]
  have loop : ∀ m k : Nat, 7 - k = m → k ≤ 7 → ∀ σ', Fr [14] [] σ σ' → (∀ j, j < k → σ' 14 j = 0) → At d 280 1 [some (.inr (.inr 14)), some (.inl 0), some (.inl (k : Int)), some (.inl 7)] [] σ' K := by
    intro m
    induction m with
    | zero =>
      intro k hk hk2 σ' fr h
      obtain rfl : k = 7 := by omega
      refine At.blk rfl rfl rfl fun sx => ?_
      simp (decide := true) only [RR, ms_app, toList_some, toList_none, if_true, if_false, true_and, and_true, cond_true, sm0, sm1, sm1l, sm2, lc_lt, lc_gt, lc_eq, Int.toNat_natCast, Int.reduceToNat, Nat.reduceAdd, Nat.reduceEqDiff, Int.reduceLT, Int.reduceEq, Int.reduceNeg, Int.reduceAdd, Int.reduceMul, Nat.reduceMul, ms_n, ms_i, ms_l, ms_p, PX]
      refine At.blk rfl rfl rfl fun sx => ?_
      simp (decide := true) only [RR, ms_app, toList_some, toList_none, if_true, if_false, true_and, and_true, cond_true, sm0, sm1, sm1l, sm2, lc_lt, lc_gt, lc_eq, Int.toNat_natCast, Int.reduceToNat, Nat.reduceAdd, Nat.reduceEqDiff, Int.reduceLT, Int.reduceEq, Int.reduceNeg, Int.reduceAdd, Int.reduceMul, Nat.reduceMul, ms_n, ms_i, ms_l, ms_p, PX]
      exact hK σ' fr h
    | succ m ih =>
      intro k hk hk2 σ' fr h
      have w1 : Unit → w32 ((k : Int) + 1) = ((k + 1 : Nat) : Int) := fun _ => by rw [w32_small (by omega) (by omega)]; omega
      refine At.blk rfl rfl rfl fun sx => ?_
      simp (decide := true) only [RR, ms_app, toList_some, toList_none, if_true, if_false, true_and, and_true, cond_true, sm0, sm1, sm1l, sm2, lc_lt, lc_gt, lc_eq, Int.toNat_natCast, Int.reduceToNat, Nat.reduceAdd, Nat.reduceEqDiff, Int.reduceLT, Int.reduceEq, Int.reduceNeg, Int.reduceAdd, Int.reduceMul, Nat.reduceMul, ms_n, ms_i, ms_l, ms_p, PX, w1 ()]
      rw [if_pos (by omega)]
      refine ⟨⟨by omega, by omega⟩, ?_⟩
      refine ih (k + 1) (by omega) (by omega) _ (fr.setr rfl) (fun j hj => ?_)
      rw [ms_app, if_pos rfl]
      by_cases e : j = k
      · rw [if_pos e]
      · rw [if_neg e]; exact h j (by omega)
  exact loop 7 0 rfl (by omega) σ Fr.same (fun j h => absurd h (by omega))
theorem x_zero17 (hK : ∀ σ', Fr [17] [] σ σ' → (∀ k, k < 4 → σ' 17 k = 0) → K none σ') : Mt (d + 1) 280 [.inr (.inr 17), .inl 0] σ K := by
  refine Mt.go (lv := [some (.inr (.inr 17)), some (.inl 0), none, none]) rfl rfl rfl ?_
  refine At.blk rfl rfl rfl fun sx => ?_
  simp (decide := true) only [RR, ms_app, toList_some, toList_none, if_true, if_false, true_and, and_true, cond_true, sm0, sm1, sm1l, sm2, lc_lt, lc_gt, lc_eq, Int.toNat_natCast, Int.reduceToNat, Nat.reduceAdd, Nat.reduceEqDiff, Int.reduceLT, Int.reduceEq, Int.reduceNeg, Int.reduceAdd, Int.reduceMul, Nat.reduceMul, ms_n, ms_i, ms_l, ms_p, PX]
  have loop : ∀ m k : Nat, 4 - k = m → k ≤ 4 → ∀ σ', Fr [17] [] σ σ' → (∀ j, j < k → σ' 17 j = 0) → At d 280 1 [some (.inr (.inr 17)), some (.inl 0), some (.inl (k : Int)), some (.inl 4)] [] σ' K := by
    intro m
    induction m with
    | zero =>
      intro k hk hk2 σ' fr h
      obtain rfl : k = 4 := by omega
      refine At.blk rfl rfl rfl fun sx => ?_
      simp (decide := true) only [RR, ms_app, toList_some, toList_none, if_true, if_false, true_and, and_true, cond_true, sm0, sm1, sm1l, sm2, lc_lt, lc_gt, lc_eq, Int.toNat_natCast, Int.reduceToNat, Nat.reduceAdd, Nat.reduceEqDiff, Int.reduceLT, Int.reduceEq, Int.reduceNeg, Int.reduceAdd, Int.reduceMul, Nat.reduceMul, ms_n, ms_i, ms_l, ms_p, PX]
      refine At.blk rfl rfl rfl fun sx => ?_
      simp (decide := true) only [RR, ms_app, toList_some, toList_none, if_true, if_false, true_and, and_true, cond_true, sm0, sm1, sm1l, sm2, lc_lt, lc_gt, lc_eq, Int.toNat_natCast, Int.reduceToNat, Nat.reduceAdd, Nat.reduceEqDiff, Int.reduceLT, Int.reduceEq, Int.reduceNeg, Int.reduceAdd, Int.reduceMul, Nat.reduceMul, ms_n, ms_i, ms_l, ms_p, PX]
      exact hK σ' fr h
    | succ m ih =>
      intro k hk hk2 σ' fr h
      have w1 : Unit → w32 ((k : Int) + 1) = ((k + 1 : Nat) : Int) := fun _ => by rw [w32_small (by omega) (by omega)]; omega
      refine At.blk rfl rfl rfl fun sx => ?_
      simp (decide := true) only [RR, ms_app, toList_some, toList_none, if_true, if_false, true_and, and_true, cond_true, sm0, sm1, sm1l, sm2, lc_lt, lc_gt, lc_eq, Int.toNat_natCast, Int.reduceToNat, Nat.reduceAdd, Nat.reduceEqDiff, Int.reduceLT, Int.reduceEq, Int.reduceNeg, Int.reduceAdd, Int.reduceMul, Nat.reduceMul, ms_n, ms_i, ms_l, ms_p, PX, w1 ()]
      rw [if_pos (by omega)]
      refine ⟨⟨by omega, by omega⟩, ?_⟩
      refine ih (k + 1) (by omega) (by omega) _ (fr.setr rfl) (fun j hj => ?_)
      rw [ms_app, if_pos rfl]
      by_cases e : j = k
      · rw [if_pos e]
      · rw [if_neg e]; exact h j (by omega)
  exact loop 4 0 rfl (by omega) σ Fr.same (fun j h => absurd h (by omega))
theorem x_zero18 (hK : ∀ σ', Fr [18] [] σ σ' → (∀ k, k < 4 → σ' 18 k = 0) → K none σ') : Mt (d + 1) 280 [.inr (.inr 18), .inl 0] σ K := by
  refine Mt.go (lv := [some (.inr (.inr 18)), some (.inl 0), none, none]) rfl rfl rfl ?_
  refine At.blk rfl rfl rfl fun sx => ?_
  simp (decide := true) only [RR, ms_app, toList_some, toList_none, if_true, if_false, true_and, and_true, cond_true, sm0, sm1, sm1l, sm2, lc_lt, lc_gt, lc_eq, Int.toNat_natCast, Int.reduceToNat, Nat.reduceAdd, Nat.reduceEqDiff, Int.reduceLT, Int.reduceEq, Int.reduceNeg, Int.reduceAdd, Int.reduceMul, Nat.reduceMul, ms_n, ms_i, ms_l, ms_p, PX]
  have loop : ∀ m k : Nat, 4 - k = m → k ≤ 4 → ∀ σ', Fr [18] [] σ σ' → (∀ j, j < k → σ' 18 j = 0) → At d 280 1 [some (.inr (.inr 18)), some (.inl 0), some (.inl (k : Int)), some (.inl 4)] [] σ' K := by
    intro m
    induction m with
    | zero =>
      intro k hk hk2 σ' fr h
      obtain rfl : k = 4 := by omega
      refine At.blk rfl rfl rfl fun sx => ?_
      simp (decide := true) only [RR, ms_app, toList_some, toList_none, if_true, if_false, true_and, and_true, cond_true, sm0, sm1, sm1l, sm2, lc_lt, lc_gt, lc_eq, Int.toNat_natCast, Int.reduceToNat, Nat.reduceAdd, Nat.reduceEqDiff, Int.reduceLT, Int.reduceEq, Int.reduceNeg, Int.reduceAdd, Int.reduceMul, Nat.reduceMul, ms_n, ms_i, ms_l, ms_p, PX]
      refine At.blk rfl rfl rfl fun sx => ?_
      simp (decide := true) only [RR, ms_app, toList_some, toList_none, if_true, if_false, true_and, and_true, cond_true, sm0, sm1, sm1l, sm2, lc_lt, lc_gt, lc_eq, Int.toNat_natCast, Int.reduceToNat, Nat.reduceAdd, Nat.reduceEqDiff, Int.reduceLT, Int.reduceEq, Int.reduceNeg, Int.reduceAdd, Int.reduceMul, Nat.reduceMul, ms_n, ms_i, ms_l, ms_p, PX]
      exact hK σ' fr h
    | succ m ih =>
      intro k hk hk2 σ' fr h
      have w1 : Unit → w32 ((k : Int) + 1) = ((k + 1 : Nat) : Int) := fun _ => by rw [w32_small (by omega) (by omega)]; omega
      refine At.blk rfl rfl rfl fun sx => ?_
      simp (decide := true) only [RR, ms_app, toList_some, toList_none, if_true, if_false, true_and, and_true, cond_true, sm0, sm1, sm1l, sm2, lc_lt, lc_gt, lc_eq, Int.toNat_natCast, Int.reduceToNat, Nat.reduceAdd, Nat.reduceEqDiff, Int.reduceLT, Int.reduceEq, Int.reduceNeg, Int.reduceAdd, Int.reduceMul, Nat.reduceMul, ms_n, ms_i, ms_l, ms_p, PX, w1 ()]
      rw [if_pos (by omega)]
      refine ⟨⟨by omega, by omega⟩, ?_⟩
      refine ih (k + 1) (by omega) (by omega) _ (fr.setr rfl) (fun j hj => ?_)
      rw [ms_app, if_pos rfl]
      by_cases e : j = k
      · rw [if_pos e]
      · rw [if_neg e]; exact h j (by omega)
  exact loop 4 0 rfl (by omega) σ Fr.same (fun j h => absurd h (by omega))
def dcL : List Nat := [14, 17, 18]
def dcT : List (Nat × Nat) := [(15, 3), (11, 4), (11, 5), (11, 6), (11, 7), (11, 8), (11, 9)]
/-- the draft is cleared -/
theorem x_dclear (hF : Fix σ) (hK : ∀ σ', Fr dcL dcT σ σ' → (∀ p, p < 7 → σ' 14 p = 0) → (∀ r, r < 4 → σ' 17 r = 0 ∧ σ' 18 r = 0) → σ' 15 3 = 0 → (σ' 11 4 = 0 ∧ σ' 11 5 = 0 ∧ σ' 11 6 = 0 ∧ σ' 11 7 = 0 ∧ σ' 11 8 = 15 ∧ σ' 11 9 = 0) → K none σ') : Mt (d + 3) 1 [.inr (.inr 11)] σ K := by
  refine Mt.go (lv := [some (.inr (.inr 11))]) rfl rfl rfl ?_
  refine At.blk rfl rfl rfl fun sx => ?_
  simp (decide := true) only [RR, ms_app, toList_some, toList_none, if_true, if_false, true_and, and_true, cond_true, sm0, sm1, sm1l, sm2, lc_lt, lc_gt, lc_eq, Int.toNat_natCast, Int.reduceToNat, Nat.reduceAdd, Nat.reduceEqDiff, Int.reduceLT, Int.reduceEq, Int.reduceNeg, Int.reduceAdd, Int.reduceMul, Nat.reduceMul, ms_n, ms_i, ms_l, ms_p, PX, fxX hF]
  refine cal_of rfl (x_zero14 (fun σ1 f1 z1 => ?_))
  have F1 : Fr dcL dcT σ σ1 := f1.mono rfl
  have hF1 := hF.fr F1 rfl
  simp (decide := true) only [RR, ms_app, toList_some, toList_none, if_true, if_false, true_and, and_true, cond_true, sm0, sm1, sm1l, sm2, lc_lt, lc_gt, lc_eq, Int.toNat_natCast, Int.reduceToNat, Nat.reduceAdd, Nat.reduceEqDiff, Int.reduceLT, Int.reduceEq, Int.reduceNeg, Int.reduceAdd, Int.reduceMul, Nat.reduceMul, ms_n, ms_i, ms_l, ms_p, PX, fxX hF1]
  refine cal_of rfl (Mt.go (lv := [some (.inr (.inr 15))]) rfl rfl rfl ?_)
  refine At.blk rfl rfl rfl fun sx => ?_
  simp (decide := true) only [RR, ms_app, toList_some, toList_none, if_true, if_false, true_and, and_true, cond_true, sm0, sm1, sm1l, sm2, lc_lt, lc_gt, lc_eq, Int.toNat_natCast, Int.reduceToNat, Nat.reduceAdd, Nat.reduceEqDiff, Int.reduceLT, Int.reduceEq, Int.reduceNeg, Int.reduceAdd, Int.reduceMul, Nat.reduceMul, ms_n, ms_i, ms_l, ms_p, PX, fxX hF1]
  refine cal_of rfl (x_zero17 (fun σ2 f2 z2 => ?_))
  have F2 : Fr dcL dcT σ σ2 := (F1.set rfl).trans (f2.mono rfl)
  have hF2 := hF.fr F2 rfl
  simp (decide := true) only [RR, ms_app, toList_some, toList_none, if_true, if_false, true_and, and_true, cond_true, sm0, sm1, sm1l, sm2, lc_lt, lc_gt, lc_eq, Int.toNat_natCast, Int.reduceToNat, Nat.reduceAdd, Nat.reduceEqDiff, Int.reduceLT, Int.reduceEq, Int.reduceNeg, Int.reduceAdd, Int.reduceMul, Nat.reduceMul, ms_n, ms_i, ms_l, ms_p, PX, fxX hF2]
  refine cal_of rfl (x_zero18 (fun σ3 f3 z3 => ?_))
  have F3 : Fr dcL dcT σ σ3 := F2.trans (f3.mono rfl)
  simp (decide := true) only [RR, ms_app, toList_some, toList_none, if_true, if_false, true_and, and_true, cond_true, sm0, sm1, sm1l, sm2, lc_lt, lc_gt, lc_eq, Int.toNat_natCast, Int.reduceToNat, Nat.reduceAdd, Nat.reduceEqDiff, Int.reduceLT, Int.reduceEq, Int.reduceNeg, Int.reduceAdd, Int.reduceMul, Nat.reduceMul, ms_n, ms_i, ms_l, ms_p, PX]
  refine hK _ ((((((F3.set rfl).set rfl).set rfl).set rfl).set rfl).set rfl) (fun p hp => ?_) (fun r hr => ⟨?_, ?_⟩) ?_ ⟨rfl, rfl, rfl, rfl, rfl, rfl⟩
  · show σ3 14 p = 0
    rw [f3 14 p rfl, f2 14 p rfl]
    exact z1 p hp
  · show σ3 17 r = 0
    rw [f3 17 r rfl]
    exact z2 r hr
  · show σ3 18 r = 0
    exact z3 r hr
  · show σ3 15 3 = 0
    rw [f3 15 3 rfl, f2 15 3 rfl]
    rfl
end
