def mxL : List Nat := [173, 176, 177, 178, 179]
def mxT : List (Nat × Nat) := [(146, 1), (146, 2), (146, 3), (146, 4), (146, 5), (146, 6), (146, 44), (146, 45)]
def cityM (σ : mM) (N : Int) : mM := mj_set (mj_set (mj_set (mj_set (mj_set (mj_set (mj_set (mj_set σ 146 3 N) 146 1 0) 146 2 0) 146 4 (-1)) 146 5 0) 146 6 (-1)) 146 45 0) 146 44 0
theorem cityM_fr {σ : mM} {N : Int} : Fr mxL mxT σ (cityM σ N) := (((((((Fr.same.set rfl).set rfl).set rfl).set rfl).set rfl).set rfl).set rfl).set rfl
section
variable {d : Nat} {σ : mM} {K : Option mV → mM → Prop} {N : Nat}
/-- the model's draft is cleared -/
theorem m_cityStart (hF : Fix σ) (e1 : σ 146 1 = (N : Int)) (hK : ∀ σ' i, Fr mxL mxT σ σ' → (σ' 146 3 = (N : Int) ∧ σ' 146 1 = 0 ∧ σ' 146 2 = 0 ∧ σ' 146 4 = -1 ∧ σ' 146 5 = 0 ∧ σ' 146 6 = -1 ∧ σ' 146 45 = 0 ∧ σ' 146 44 = 0) → (∀ k, k < 2 → σ' 173 k = 0 ∧ σ' 177 k = 0) → (∀ k, k < 7 → σ' 176 k = 0) → (∀ k, k < 3 → σ' 179 k = -1) → σ' 178 0 = 15 → σ' 178 1 = 0 → (∀ k, 2 ≤ k → σ' 173 k = σ 173 k ∧ σ' 177 k = σ 177 k ∧ σ' 178 k = σ 178 k) → (∀ k, 7 ≤ k → σ' 176 k = σ 176 k) → (∀ k, 3 ≤ k → σ' 179 k = σ 179 k) → At d 175 7 [some (.inr (.inr 146)), some (.inl i)] [] σ' K) : Mt (d + 1) 175 [.inr (.inr 146)] σ K := by
  refine Mt.go (lv := [some (.inr (.inr 146)), none]) rfl rfl rfl ?_
  have base : cityM σ N 146 3 = (N : Int) ∧ cityM σ N 146 1 = 0 ∧ cityM σ N 146 2 = 0 ∧ cityM σ N 146 4 = -1 ∧ cityM σ N 146 5 = 0 ∧ cityM σ N 146 6 = -1 ∧ cityM σ N 146 45 = 0 ∧ cityM σ N 146 44 = 0 := ⟨rfl, rfl, rfl, rfl, rfl, rfl, rfl, rfl⟩
  have l3 : ∀ m k : Nat, 3 - k = m → k ≤ 3 → ∀ σ', Fr [173, 176, 177, 179] [] (cityM σ N) σ' → (∀ k, k < 2 → σ' 173 k = 0 ∧ σ' 177 k = 0) → (∀ k, k < 7 → σ' 176 k = 0) → (∀ j, j < k → σ' 179 j = -1) → (∀ k, 2 ≤ k → σ' 173 k = σ 173 k ∧ σ' 177 k = σ 177 k) → (∀ k, 7 ≤ k → σ' 176 k = σ 176 k) → (∀ k, 3 ≤ k → σ' 179 k = σ 179 k) → At d 175 5 [some (.inr (.inr 146)), some (.inl (k : Int))] [] σ' K := by
    intro m
    induction m with
    | zero =>
      intro k hk hk2 σ' fr z1 z2 z3 y1 y2 y3
      obtain rfl : k = 3 := by omega
      have F : Fr mxL mxT σ σ' := cityM_fr.trans (fr.mono rfl)
      have hF' := hF.fr F rfl
      refine At.blk rfl rfl rfl fun sx => ?_
      simp (decide := true) only [RR, ms_app, toList_some, toList_none, if_true, if_false, true_and, and_true, cond_true, sm0, sm1, sm1l, sm2, lc_lt, lc_gt, lc_eq, Int.toNat_natCast, Int.reduceToNat, Nat.reduceAdd, Nat.reduceEqDiff, Int.reduceLT, Int.reduceEq, Int.reduceNeg, Int.reduceAdd, Int.reduceMul, Nat.reduceMul, ms_n, ms_i, ms_l, ms_p, PM]
      refine At.blk rfl rfl rfl fun sx => ?_
      simp (decide := true) only [RR, ms_app, toList_some, toList_none, if_true, if_false, true_and, and_true, cond_true, sm0, sm1, sm1l, sm2, lc_lt, lc_gt, lc_eq, Int.toNat_natCast, Int.reduceToNat, Nat.reduceAdd, Nat.reduceEqDiff, Int.reduceLT, Int.reduceEq, Int.reduceNeg, Int.reduceAdd, Int.reduceMul, Nat.reduceMul, ms_n, ms_i, ms_l, ms_p, PM, fxM hF']
      refine hK _ _ ((F.setr rfl).setr rfl) ?_ z1 z2 z3 rfl rfl (fun k hk => ⟨(y1 k hk).1, (y1 k hk).2, ?_⟩) y2 y3
      · obtain ⟨a1, a2, a3, a4, a5, a6, a7, a8⟩ := base
        exact ⟨(fr 146 3 rfl).trans a1, (fr 146 1 rfl).trans a2, (fr 146 2 rfl).trans a3, (fr 146 4 rfl).trans a4, (fr 146 5 rfl).trans a5, (fr 146 6 rfl).trans a6, (fr 146 45 rfl).trans a7, (fr 146 44 rfl).trans a8⟩
      · rw [ms_app, if_pos rfl, if_neg (by omega), ms_app, if_pos rfl, if_neg (by omega)]
        exact fr 178 k rfl
    | succ m ih =>
      intro k hk hk2 σ' fr z1 z2 z3 y1 y2 y3
      have F : Fr mxL mxT σ σ' := cityM_fr.trans (fr.mono rfl)
      have hF' := hF.fr F rfl
      have w1 : Unit → w32 ((k : Int) + 1) = ((k + 1 : Nat) : Int) := fun _ => by rw [w32_small (by omega) (by omega)]; omega
      refine At.blk rfl rfl rfl fun sx => ?_
      simp (decide := true) only [RR, ms_app, toList_some, toList_none, if_true, if_false, true_and, and_true, cond_true, sm0, sm1, sm1l, sm2, lc_lt, lc_gt, lc_eq, Int.toNat_natCast, Int.reduceToNat, Nat.reduceAdd, Nat.reduceEqDiff, Int.reduceLT, Int.reduceEq, Int.reduceNeg, Int.reduceAdd, Int.reduceMul, Nat.reduceMul, ms_n, ms_i, ms_l, ms_p, PM, fxM hF', w1 ()]
      rw [if_pos (by omega)]
      refine ⟨⟨by omega, by omega⟩, ?_⟩
      refine ih (k + 1) (by omega) (by omega) _ (fr.setr rfl) z1 z2 (fun j hj => ?_) y1 y2 (fun j hj => ?_)
      · rw [ms_app, if_pos rfl]
        by_cases e : j = k
        · rw [if_pos e]
        · rw [if_neg e]; exact z3 j (by omega)
      · rw [ms_app, if_pos rfl, if_neg (by omega)]; exact y3 j hj
  have l2 : ∀ m k : Nat, 7 - k = m → k ≤ 7 → ∀ σ', Fr [173, 176, 177] [] (cityM σ N) σ' → (∀ k, k < 2 → σ' 173 k = 0 ∧ σ' 177 k = 0) → (∀ j, j < k → σ' 176 j = 0) → (∀ k, 2 ≤ k → σ' 173 k = σ 173 k ∧ σ' 177 k = σ 177 k) → (∀ k, 7 ≤ k → σ' 176 k = σ 176 k) → At d 175 3 [some (.inr (.inr 146)), some (.inl (k : Int))] [] σ' K := by
    intro m
    induction m with
    | zero =>
      intro k hk hk2 σ' fr z1 z2 y1 y2
      obtain rfl : k = 7 := by omega
      refine At.blk rfl rfl rfl fun sx => ?_
      simp (decide := true) only [RR, ms_app, toList_some, toList_none, if_true, if_false, true_and, and_true, cond_true, sm0, sm1, sm1l, sm2, lc_lt, lc_gt, lc_eq, Int.toNat_natCast, Int.reduceToNat, Nat.reduceAdd, Nat.reduceEqDiff, Int.reduceLT, Int.reduceEq, Int.reduceNeg, Int.reduceAdd, Int.reduceMul, Nat.reduceMul, ms_n, ms_i, ms_l, ms_p, PM]
      refine At.blk rfl rfl rfl fun sx => ?_
      simp (decide := true) only [RR, ms_app, toList_some, toList_none, if_true, if_false, true_and, and_true, cond_true, sm0, sm1, sm1l, sm2, lc_lt, lc_gt, lc_eq, Int.toNat_natCast, Int.reduceToNat, Nat.reduceAdd, Nat.reduceEqDiff, Int.reduceLT, Int.reduceEq, Int.reduceNeg, Int.reduceAdd, Int.reduceMul, Nat.reduceMul, ms_n, ms_i, ms_l, ms_p, PM]
      exact l3 3 0 rfl (by omega) σ' (fr.mono rfl) z1 z2 (fun j hj => absurd hj (by omega)) y1 y2 (fun j hj => fr 179 j rfl)
    | succ m ih =>
      intro k hk hk2 σ' fr z1 z2 y1 y2
      have F : Fr mxL mxT σ σ' := cityM_fr.trans (fr.mono rfl)
      have hF' := hF.fr F rfl
      have w1 : Unit → w32 ((k : Int) + 1) = ((k + 1 : Nat) : Int) := fun _ => by rw [w32_small (by omega) (by omega)]; omega
      refine At.blk rfl rfl rfl fun sx => ?_
      simp (decide := true) only [RR, ms_app, toList_some, toList_none, if_true, if_false, true_and, and_true, cond_true, sm0, sm1, sm1l, sm2, lc_lt, lc_gt, lc_eq, Int.toNat_natCast, Int.reduceToNat, Nat.reduceAdd, Nat.reduceEqDiff, Int.reduceLT, Int.reduceEq, Int.reduceNeg, Int.reduceAdd, Int.reduceMul, Nat.reduceMul, ms_n, ms_i, ms_l, ms_p, PM, fxM hF', w1 ()]
      rw [if_pos (by omega)]
      refine ⟨⟨by omega, by omega⟩, ?_⟩
      refine ih (k + 1) (by omega) (by omega) _ (fr.setr rfl) z1 (fun j hj => ?_) y1 (fun j hj => ?_)
      · rw [ms_app, if_pos rfl]
        by_cases e : j = k
        · rw [if_pos e]
        · rw [if_neg e]; exact z2 j (by omega)
      · rw [ms_app, if_pos rfl, if_neg (by omega)]; exact y2 j hj
  have l1 : ∀ m k : Nat, 2 - k = m → k ≤ 2 → ∀ σ', Fr [173, 177] [] (cityM σ N) σ' → (∀ j, j < k → σ' 173 j = 0 ∧ σ' 177 j = 0) → (∀ k, 2 ≤ k → σ' 173 k = σ 173 k ∧ σ' 177 k = σ 177 k) → At d 175 1 [some (.inr (.inr 146)), some (.inl (k : Int))] [] σ' K := by
    intro m
    induction m with
    | zero =>
      intro k hk hk2 σ' fr z1 y1
      obtain rfl : k = 2 := by omega
      refine At.blk rfl rfl rfl fun sx => ?_
      simp (decide := true) only [RR, ms_app, toList_some, toList_none, if_true, if_false, true_and, and_true, cond_true, sm0, sm1, sm1l, sm2, lc_lt, lc_gt, lc_eq, Int.toNat_natCast, Int.reduceToNat, Nat.reduceAdd, Nat.reduceEqDiff, Int.reduceLT, Int.reduceEq, Int.reduceNeg, Int.reduceAdd, Int.reduceMul, Nat.reduceMul, ms_n, ms_i, ms_l, ms_p, PM]
      refine At.blk rfl rfl rfl fun sx => ?_
      simp (decide := true) only [RR, ms_app, toList_some, toList_none, if_true, if_false, true_and, and_true, cond_true, sm0, sm1, sm1l, sm2, lc_lt, lc_gt, lc_eq, Int.toNat_natCast, Int.reduceToNat, Nat.reduceAdd, Nat.reduceEqDiff, Int.reduceLT, Int.reduceEq, Int.reduceNeg, Int.reduceAdd, Int.reduceMul, Nat.reduceMul, ms_n, ms_i, ms_l, ms_p, PM]
      exact l2 7 0 rfl (by omega) σ' (fr.mono rfl) z1 (fun j hj => absurd hj (by omega)) y1 (fun j hj => fr 176 j rfl)
    | succ m ih =>
      intro k hk hk2 σ' fr z1 y1
      have F : Fr mxL mxT σ σ' := cityM_fr.trans (fr.mono rfl)
      have hF' := hF.fr F rfl
      have w1 : Unit → w32 ((k : Int) + 1) = ((k + 1 : Nat) : Int) := fun _ => by rw [w32_small (by omega) (by omega)]; omega
      refine At.blk rfl rfl rfl fun sx => ?_
      simp (decide := true) only [RR, ms_app, toList_some, toList_none, if_true, if_false, true_and, and_true, cond_true, sm0, sm1, sm1l, sm2, lc_lt, lc_gt, lc_eq, Int.toNat_natCast, Int.reduceToNat, Nat.reduceAdd, Nat.reduceEqDiff, Int.reduceLT, Int.reduceEq, Int.reduceNeg, Int.reduceAdd, Int.reduceMul, Nat.reduceMul, ms_n, ms_i, ms_l, ms_p, PM, fxM hF', w1 ()]
      rw [if_pos (by omega)]
      refine ⟨⟨by omega, by omega⟩, ⟨by omega, by omega⟩, ?_⟩
      refine ih (k + 1) (by omega) (by omega) _ ((fr.setr rfl).setr rfl) (fun j hj => ?_) (fun j hj => ?_)
      · by_cases e : j = k
        · subst e
          exact ⟨by rw [ms_row (by decide), ms_app, if_pos rfl, if_pos rfl], by rw [ms_app, if_pos rfl, if_pos rfl]⟩
        · exact ⟨by rw [ms_row (by decide), ms_app, if_pos rfl, if_neg e]; exact (z1 j (by omega)).1, by rw [ms_app, if_pos rfl, if_neg e, ms_row (by decide)]; exact (z1 j (by omega)).2⟩
      · exact ⟨by rw [ms_row (by decide), ms_app, if_pos rfl, if_neg (by omega)]; exact (y1 j hj).1, by rw [ms_app, if_pos rfl, if_neg (by omega), ms_row (by decide)]; exact (y1 j hj).2⟩
  refine At.blk rfl rfl rfl fun sx => ?_
  simp (decide := true) only [RR, ms_app, toList_some, toList_none, if_true, if_false, true_and, and_true, cond_true, sm0, sm1, sm1l, sm2, lc_lt, lc_gt, lc_eq, Int.toNat_natCast, Int.reduceToNat, Nat.reduceAdd, Nat.reduceEqDiff, Int.reduceLT, Int.reduceEq, Int.reduceNeg, Int.reduceAdd, Int.reduceMul, Nat.reduceMul, ms_n, ms_i, ms_l, ms_p, PM, e1]
  exact l1 2 0 rfl (by omega) (cityM σ N) Fr.same (fun j hj => absurd hj (by omega)) (fun k hk => ⟨rfl, rfl⟩)
end
