section
variable {d : Nat} {μ : mM} {K : Option mV → mM → Prop}
theorem sd_a (hF : Fix μ) (hK : ∀ μ', Fr [173, 178] [] μ μ' → (∀ j, j < 2 → μ' 173 (2 + j) = μ 173 j ∧ μ' 178 (2 + j) = μ 178 j ∧ μ' 173 j = μ 173 j ∧ μ' 178 j = μ 178 j) → At d 176 2 [some (.inr (.inr 146)), some (.inl 2)] [] μ' K) : At d 176 1 [some (.inr (.inr 146)), some (.inl 0)] [] μ K := by
  have loop : ∀ (i k : Nat) (μ' : mM), 2 - k = i → k ≤ 2 → Fr [173, 178] [] μ μ' → (∀ j, j < k → μ' 173 (2 + j) = μ 173 j ∧ μ' 178 (2 + j) = μ 178 j) → (∀ j, j < 2 → μ' 173 j = μ 173 j ∧ μ' 178 j = μ 178 j) → At d 176 1 [some (.inr (.inr 146)), some (.inl (k : Int))] [] μ' K := by
    intro i
    induction i with
    | zero =>
      intro k μ' hi hk f h1 h2
      obtain rfl : k = 2 := by omega
      refine At.blk rfl rfl rfl fun sx => ?_
      simp (decide := true) only [RR, ms_app, toList_some, toList_none, if_true, if_false, true_and, and_true, cond_true, sm0, sm1, sm1l, sm2, lc_lt, lc_gt, lc_eq, Int.toNat_natCast, Int.reduceToNat, Nat.reduceAdd, Nat.reduceEqDiff, Int.reduceLT, Int.reduceEq, Int.reduceNeg, Int.reduceAdd, Int.reduceMul, Nat.reduceMul, ms_n, ms_i, ms_l, ms_p, PM]
      exact hK μ' f (fun j hj => ⟨(h1 j hj).1, (h1 j hj).2, h2 j hj⟩)
    | succ i ih =>
      intro k μ' hi hk f h1 h2
      have hF' := hF.fr f rfl
      have w1 : Unit → w32 ((k : Int) + 1) = ((k + 1 : Nat) : Int) := fun _ => by rw [w32_small (by omega) (by omega)]; omega
      have w2 : Unit → w32 (2 + (k : Int)) = ((2 + k : Nat) : Int) := fun _ => by rw [w32_small (by omega) (by omega)]; omega
      refine At.blk rfl rfl rfl fun sx => ?_
      simp (decide := true) only [RR, ms_app, toList_some, toList_none, if_true, if_false, true_and, and_true, cond_true, sm0, sm1, sm1l, sm2, lc_lt, lc_gt, lc_eq, Int.toNat_natCast, Int.reduceToNat, Nat.reduceAdd, Nat.reduceEqDiff, Int.reduceLT, Int.reduceEq, Int.reduceNeg, Int.reduceAdd, Int.reduceMul, Nat.reduceMul, ms_n, ms_i, ms_l, ms_p, PM, fxM hF', w1 (), w2 ()]
      rw [if_pos (by omega)]
      refine ⟨⟨by omega, by omega⟩, ⟨by omega, by omega⟩, ⟨by omega, by omega⟩, ⟨by omega, by omega⟩, ?_⟩
      refine ih (k + 1) _ (by omega) (by omega) ((f.setr rfl).setr rfl) (fun j hj => ⟨?_, ?_⟩) (fun j hj => ⟨?_, ?_⟩)
      · rw [ms_row (by decide), ms_app, if_pos rfl]
        by_cases e : j = k
        · subst e; rw [if_pos rfl]; exact (h2 j (by omega)).1
        · rw [if_neg (by omega)]; exact (h1 j (by omega)).1
      · rw [ms_app, if_pos rfl]
        by_cases e : j = k
        · subst e; rw [if_pos rfl]; exact (h2 j (by omega)).2
        · rw [if_neg (by omega), ms_row (by decide)]; exact (h1 j (by omega)).2
      · rw [ms_row (by decide), ms_app, if_pos rfl, if_neg (by omega)]; exact (h2 j hj).1
      · rw [ms_app, if_pos rfl, if_neg (by omega), ms_row (by decide)]; exact (h2 j hj).2
  exact loop 2 0 μ rfl (by omega) Fr.same (fun j hj => absurd hj (by omega)) (fun j hj => ⟨rfl, rfl⟩)
theorem sd_b (hF : Fix μ) (hK : ∀ μ', Fr [174, 176] [] μ μ' → (∀ j, j < 7 → μ' 174 (7 + j) = μ 174 j ∧ μ' 176 (7 + j) = μ 176 j) → At d 176 4 [some (.inr (.inr 146)), some (.inl 7)] [] μ' K) : At d 176 3 [some (.inr (.inr 146)), some (.inl 0)] [] μ K := by
  have loop : ∀ (i k : Nat) (μ' : mM), 7 - k = i → k ≤ 7 → Fr [174, 176] [] μ μ' → (∀ j, j < k → μ' 174 (7 + j) = μ 174 j ∧ μ' 176 (7 + j) = μ 176 j) → (∀ j, j < 7 → μ' 174 j = μ 174 j ∧ μ' 176 j = μ 176 j) → At d 176 3 [some (.inr (.inr 146)), some (.inl (k : Int))] [] μ' K := by
    intro i
    induction i with
    | zero =>
      intro k μ' hi hk f h1 h2
      obtain rfl : k = 7 := by omega
      refine At.blk rfl rfl rfl fun sx => ?_
      simp (decide := true) only [RR, ms_app, toList_some, toList_none, if_true, if_false, true_and, and_true, cond_true, sm0, sm1, sm1l, sm2, lc_lt, lc_gt, lc_eq, Int.toNat_natCast, Int.reduceToNat, Nat.reduceAdd, Nat.reduceEqDiff, Int.reduceLT, Int.reduceEq, Int.reduceNeg, Int.reduceAdd, Int.reduceMul, Nat.reduceMul, ms_n, ms_i, ms_l, ms_p, PM]
      exact hK μ' f h1
    | succ i ih =>
      intro k μ' hi hk f h1 h2
      have hF' := hF.fr f rfl
      have w1 : Unit → w32 ((k : Int) + 1) = ((k + 1 : Nat) : Int) := fun _ => by rw [w32_small (by omega) (by omega)]; omega
      have w2 : Unit → w32 (7 + (k : Int)) = ((7 + k : Nat) : Int) := fun _ => by rw [w32_small (by omega) (by omega)]; omega
      refine At.blk rfl rfl rfl fun sx => ?_
      simp (decide := true) only [RR, ms_app, toList_some, toList_none, if_true, if_false, true_and, and_true, cond_true, sm0, sm1, sm1l, sm2, lc_lt, lc_gt, lc_eq, Int.toNat_natCast, Int.reduceToNat, Nat.reduceAdd, Nat.reduceEqDiff, Int.reduceLT, Int.reduceEq, Int.reduceNeg, Int.reduceAdd, Int.reduceMul, Nat.reduceMul, ms_n, ms_i, ms_l, ms_p, PM, fxM hF', w1 (), w2 ()]
      rw [if_pos (by omega)]
      refine ⟨⟨by omega, by omega⟩, ⟨by omega, by omega⟩, ⟨by omega, by omega⟩, ⟨by omega, by omega⟩, ?_⟩
      refine ih (k + 1) _ (by omega) (by omega) ((f.setr rfl).setr rfl) (fun j hj => ⟨?_, ?_⟩) (fun j hj => ⟨?_, ?_⟩)
      · rw [ms_row (by decide), ms_app, if_pos rfl]
        by_cases e : j = k
        · subst e; rw [if_pos rfl]; exact (h2 j (by omega)).1
        · rw [if_neg (by omega)]; exact (h1 j (by omega)).1
      · rw [ms_app, if_pos rfl]
        by_cases e : j = k
        · subst e; rw [if_pos rfl]; exact (h2 j (by omega)).2
        · rw [if_neg (by omega), ms_row (by decide)]; exact (h1 j (by omega)).2
      · rw [ms_row (by decide), ms_app, if_pos rfl, if_neg (by omega)]; exact (h2 j hj).1
      · rw [ms_app, if_pos rfl, if_neg (by omega), ms_row (by decide)]; exact (h2 j hj).2
  exact loop 7 0 μ rfl (by omega) Fr.same (fun j hj => absurd hj (by omega)) (fun j hj => ⟨rfl, rfl⟩)
theorem sd_c (hF : Fix μ) (hK : ∀ μ', Fr [179, 180] [] μ μ' → (∀ j, j < 3 → μ' 179 (3 + j) = μ 179 j ∧ μ' 180 (3 + j) = μ 180 j) → At d 176 6 [some (.inr (.inr 146)), some (.inl 3)] [] μ' K) : At d 176 5 [some (.inr (.inr 146)), some (.inl 0)] [] μ K := by
  have loop : ∀ (i k : Nat) (μ' : mM), 3 - k = i → k ≤ 3 → Fr [179, 180] [] μ μ' → (∀ j, j < k → μ' 179 (3 + j) = μ 179 j ∧ μ' 180 (3 + j) = μ 180 j) → (∀ j, j < 3 → μ' 179 j = μ 179 j ∧ μ' 180 j = μ 180 j) → At d 176 5 [some (.inr (.inr 146)), some (.inl (k : Int))] [] μ' K := by
    intro i
    induction i with
    | zero =>
      intro k μ' hi hk f h1 h2
      obtain rfl : k = 3 := by omega
      refine At.blk rfl rfl rfl fun sx => ?_
      simp (decide := true) only [RR, ms_app, toList_some, toList_none, if_true, if_false, true_and, and_true, cond_true, sm0, sm1, sm1l, sm2, lc_lt, lc_gt, lc_eq, Int.toNat_natCast, Int.reduceToNat, Nat.reduceAdd, Nat.reduceEqDiff, Int.reduceLT, Int.reduceEq, Int.reduceNeg, Int.reduceAdd, Int.reduceMul, Nat.reduceMul, ms_n, ms_i, ms_l, ms_p, PM]
      exact hK μ' f h1
    | succ i ih =>
      intro k μ' hi hk f h1 h2
      have hF' := hF.fr f rfl
      have w1 : Unit → w32 ((k : Int) + 1) = ((k + 1 : Nat) : Int) := fun _ => by rw [w32_small (by omega) (by omega)]; omega
      have w2 : Unit → w32 (3 + (k : Int)) = ((3 + k : Nat) : Int) := fun _ => by rw [w32_small (by omega) (by omega)]; omega
      refine At.blk rfl rfl rfl fun sx => ?_
      simp (decide := true) only [RR, ms_app, toList_some, toList_none, if_true, if_false, true_and, and_true, cond_true, sm0, sm1, sm1l, sm2, lc_lt, lc_gt, lc_eq, Int.toNat_natCast, Int.reduceToNat, Nat.reduceAdd, Nat.reduceEqDiff, Int.reduceLT, Int.reduceEq, Int.reduceNeg, Int.reduceAdd, Int.reduceMul, Nat.reduceMul, ms_n, ms_i, ms_l, ms_p, PM, fxM hF', w1 (), w2 ()]
      rw [if_pos (by omega)]
      refine ⟨⟨by omega, by omega⟩, ⟨by omega, by omega⟩, ⟨by omega, by omega⟩, ⟨by omega, by omega⟩, ?_⟩
      refine ih (k + 1) _ (by omega) (by omega) ((f.setr rfl).setr rfl) (fun j hj => ⟨?_, ?_⟩) (fun j hj => ⟨?_, ?_⟩)
      · rw [ms_row (by decide), ms_app, if_pos rfl]
        by_cases e : j = k
        · subst e; rw [if_pos rfl]; exact (h2 j (by omega)).1
        · rw [if_neg (by omega)]; exact (h1 j (by omega)).1
      · rw [ms_app, if_pos rfl]
        by_cases e : j = k
        · subst e; rw [if_pos rfl]; exact (h2 j (by omega)).2
        · rw [if_neg (by omega), ms_row (by decide)]; exact (h1 j (by omega)).2
      · rw [ms_row (by decide), ms_app, if_pos rfl, if_neg (by omega)]; exact (h2 j hj).1
      · rw [ms_app, if_pos rfl, if_neg (by omega), ms_row (by decide)]; exact (h2 j hj).2
  exact loop 3 0 μ rfl (by omega) Fr.same (fun j hj => absurd hj (by omega)) (fun j hj => ⟨rfl, rfl⟩)
theorem sd_d {c : Nat} (hF : Fix μ) (hc : μ 146 44 = (c : Int)) (c16 : c ≤ 1600) (hK : ∀ μ', Fr [181] [] μ μ' → (∀ j, j < c → μ' 181 (1600 + j) = μ 181 j) → At d 176 8 [some (.inr (.inr 146)), some (.inl (c : Int))] [] μ' K) : At d 176 7 [some (.inr (.inr 146)), some (.inl 0)] [] μ K := by
  have loop : ∀ (i k : Nat) (μ' : mM), c - k = i → k ≤ c → Fr [181] [] μ μ' → (∀ j, j < k → μ' 181 (1600 + j) = μ 181 j) → (∀ j, j < 1600 → μ' 181 j = μ 181 j) → At d 176 7 [some (.inr (.inr 146)), some (.inl (k : Int))] [] μ' K := by
    intro i
    induction i with
    | zero =>
      intro k μ' hi hk f h1 h2
      obtain rfl : k = c := by omega
      have e44 : μ' 146 44 = (k : Int) := (f 146 44 rfl).trans hc
      refine At.blk rfl rfl rfl fun sx => ?_
      simp (decide := true) only [RR, ms_app, toList_some, toList_none, if_true, if_false, true_and, and_true, cond_true, sm0, sm1, sm1l, sm2, lc_lt, lc_gt, lc_eq, Int.toNat_natCast, Int.reduceToNat, Nat.reduceAdd, Nat.reduceEqDiff, Int.reduceLT, Int.reduceEq, Int.reduceNeg, Int.reduceAdd, Int.reduceMul, Nat.reduceMul, ms_n, ms_i, ms_l, ms_p, PM, e44]
      rw [if_neg (by omega)]
      exact hK μ' f h1
    | succ i ih =>
      intro k μ' hi hk f h1 h2
      have hF' := hF.fr f rfl
      have e44 : μ' 146 44 = (c : Int) := (f 146 44 rfl).trans hc
      have w1 : Unit → w32 ((k : Int) + 1) = ((k + 1 : Nat) : Int) := fun _ => by rw [w32_small (by omega) (by omega)]; omega
      have w2 : Unit → w32 (1600 + (k : Int)) = ((1600 + k : Nat) : Int) := fun _ => by rw [w32_small (by omega) (by omega)]; omega
      refine At.blk rfl rfl rfl fun sx => ?_
      simp (decide := true) only [RR, ms_app, toList_some, toList_none, if_true, if_false, true_and, and_true, cond_true, sm0, sm1, sm1l, sm2, lc_lt, lc_gt, lc_eq, Int.toNat_natCast, Int.reduceToNat, Nat.reduceAdd, Nat.reduceEqDiff, Int.reduceLT, Int.reduceEq, Int.reduceNeg, Int.reduceAdd, Int.reduceMul, Nat.reduceMul, ms_n, ms_i, ms_l, ms_p, PM, fxM hF', e44, w1 (), w2 ()]
      rw [if_pos (by omega)]
      refine ⟨⟨by omega, by omega⟩, ⟨by omega, by omega⟩, ?_⟩
      refine ih (k + 1) _ (by omega) (by omega) (f.setr rfl) (fun j hj => ?_) (fun j hj => ?_)
      · rw [ms_app, if_pos rfl]
        by_cases e : j = k
        · subst e; rw [if_pos rfl]; exact h2 j (by omega)
        · rw [if_neg (by omega)]; exact h1 j (by omega)
      · rw [ms_app, if_pos rfl, if_neg (by omega)]; exact h2 j hj
  exact loop c 0 μ rfl (by omega) Fr.same (fun j hj => absurd hj (by omega)) (fun j hj => rfl)
theorem sd_e (hF : Fix μ) (hK : ∀ μ', Fr [182] [] μ μ' → (∀ j, j < 150 → μ' 182 j = 0) → At d 176 10 [some (.inr (.inr 146)), some (.inl 150)] [] μ' K) : At d 176 9 [some (.inr (.inr 146)), some (.inl 0)] [] μ K := by
  have loop : ∀ (i k : Nat) (μ' : mM), 150 - k = i → k ≤ 150 → Fr [182] [] μ μ' → (∀ j, j < k → μ' 182 j = 0) → At d 176 9 [some (.inr (.inr 146)), some (.inl (k : Int))] [] μ' K := by
    intro i
    induction i with
    | zero =>
      intro k μ' hi hk f h1
      obtain rfl : k = 150 := by omega
      refine At.blk rfl rfl rfl fun sx => ?_
      simp (decide := true) only [RR, ms_app, toList_some, toList_none, if_true, if_false, true_and, and_true, cond_true, sm0, sm1, sm1l, sm2, lc_lt, lc_gt, lc_eq, Int.toNat_natCast, Int.reduceToNat, Nat.reduceAdd, Nat.reduceEqDiff, Int.reduceLT, Int.reduceEq, Int.reduceNeg, Int.reduceAdd, Int.reduceMul, Nat.reduceMul, ms_n, ms_i, ms_l, ms_p, PM]
      exact hK μ' f h1
    | succ i ih =>
      intro k μ' hi hk f h1
      have hF' := hF.fr f rfl
      have w1 : Unit → w32 ((k : Int) + 1) = ((k + 1 : Nat) : Int) := fun _ => by rw [w32_small (by omega) (by omega)]; omega
      refine At.blk rfl rfl rfl fun sx => ?_
      simp (decide := true) only [RR, ms_app, toList_some, toList_none, if_true, if_false, true_and, and_true, cond_true, sm0, sm1, sm1l, sm2, lc_lt, lc_gt, lc_eq, Int.toNat_natCast, Int.reduceToNat, Nat.reduceAdd, Nat.reduceEqDiff, Int.reduceLT, Int.reduceEq, Int.reduceNeg, Int.reduceAdd, Int.reduceMul, Nat.reduceMul, ms_n, ms_i, ms_l, ms_p, PM, fxM hF', w1 ()]
      rw [if_pos (by omega)]
      refine ⟨⟨by omega, by omega⟩, ?_⟩
      refine ih (k + 1) _ (by omega) (by omega) (f.setr rfl) (fun j hj => ?_)
      rw [ms_app, if_pos rfl]
      by_cases e : j = k
      · subst e; rw [if_pos rfl]
      · rw [if_neg e]; exact h1 j (by omega)
  exact loop 150 0 μ rfl (by omega) Fr.same (fun j hj => absurd hj (by omega))
/-- a fresh sky of the model -/
def sdS (μ μ' : mM) (n : Nat) : Prop := μ' 182 0 = 0 ∧ μ' 182 29 = 0 ∧ ∀ p, p < n → μ' 182 (1 + 4 * p) = μ 175 p ∧ μ' 182 (2 + 4 * p) = bit (μ 177 0) p ∧ μ' 182 (3 + 4 * p) = bit (μ 177 1) p ∧ μ' 182 (4 + 4 * p) = -1
theorem sd_f {n : Nat} (hF : Fix μ) (hn : μ 173 0 = (n : Int)) (n7 : n ≤ 7) (b0 : 0 ≤ μ 177 0 ∧ μ 177 0 < 128) (b1 : 0 ≤ μ 177 1 ∧ μ 177 1 < 128) (hz : ∀ j, j < 150 → μ 182 j = 0) (hK : ∀ μ', Fr [182] [] μ μ' → sdS μ μ' n → At d 176 12 [some (.inr (.inr 146)), some (.inl (n : Int))] [] μ' K) : At d 176 11 [some (.inr (.inr 146)), some (.inl 0)] [] μ K := by
  have loop : ∀ (i k : Nat) (μ' : mM), n - k = i → k ≤ n → Fr [182] [] μ μ' → sdS μ μ' k → At d 176 11 [some (.inr (.inr 146)), some (.inl (k : Int))] [] μ' K := by
    intro i
    induction i with
    | zero =>
      intro k μ' hi hk f h1
      obtain rfl : k = n := by omega
      have hF' := hF.fr f rfl
      have e1 : μ' 173 0 = (k : Int) := (f 173 0 rfl).trans hn
      refine At.blk rfl rfl rfl fun sx => ?_
      simp (decide := true) only [RR, ms_app, toList_some, toList_none, if_true, if_false, true_and, and_true, cond_true, sm0, sm1, sm1l, sm2, lc_lt, lc_gt, lc_eq, Int.toNat_natCast, Int.reduceToNat, Nat.reduceAdd, Nat.reduceEqDiff, Int.reduceLT, Int.reduceEq, Int.reduceNeg, Int.reduceAdd, Int.reduceMul, Nat.reduceMul, ms_n, ms_i, ms_l, ms_p, PM, fxM hF', e1]
      rw [if_neg (by omega)]
      exact hK μ' f h1
    | succ i ih =>
      intro k μ' hi hk f h1
      have hF' := hF.fr f rfl
      have e1 : μ' 173 0 = (n : Int) := (f 173 0 rfl).trans hn
      have e2 : μ' 177 = μ 177 := f.row 177 rfl
      have e3 : μ' 175 = μ 175 := f.row 175 rfl
      have w1 : Unit → w32 ((k : Int) + 1) = ((k + 1 : Nat) : Int) := fun _ => by rw [w32_small (by omega) (by omega)]; omega
      have w4 : Unit → w32 (4 * (k : Int)) = ((4 * k : Nat) : Int) := fun _ => by rw [w32_small (by omega) (by omega)]; omega
      have v1 : Unit → w32 (1 + ((4 * k : Nat) : Int)) = ((1 + 4 * k : Nat) : Int) := fun _ => by rw [w32_small (by omega) (by omega)]; omega
      have v2 : Unit → w32 (2 + ((4 * k : Nat) : Int)) = ((2 + 4 * k : Nat) : Int) := fun _ => by rw [w32_small (by omega) (by omega)]; omega
      have v3 : Unit → w32 (3 + ((4 * k : Nat) : Int)) = ((3 + 4 * k : Nat) : Int) := fun _ => by rw [w32_small (by omega) (by omega)]; omega
      have v4 : Unit → w32 (4 + ((4 * k : Nat) : Int)) = ((4 + 4 * k : Nat) : Int) := fun _ => by rw [w32_small (by omega) (by omega)]; omega
      have x0 : i_and (i_shr (μ 177 0) (k : Int)) 1 = bit (μ 177 0) k := by
        rw [i_bit (by omega) (by omega) (by omega), Int.toNat_natCast]
      have x1 : i_and (i_shr (μ 177 1) (k : Int)) 1 = bit (μ 177 1) k := by
        rw [i_bit (by omega) (by omega) (by omega), Int.toNat_natCast]
      refine At.blk rfl rfl rfl fun sx => ?_
      simp (decide := true) only [RR, ms_app, toList_some, toList_none, if_true, if_false, true_and, and_true, cond_true, sm0, sm1, sm1l, sm2, lc_lt, lc_gt, lc_eq, Int.toNat_natCast, Int.reduceToNat, Nat.reduceAdd, Nat.reduceEqDiff, Int.reduceLT, Int.reduceEq, Int.reduceNeg, Int.reduceAdd, Int.reduceMul, Nat.reduceMul, ms_n, ms_i, ms_l, ms_p, PM, fxM hF', e1, e2, e3, w1 (), w4 (), v1 (), v2 (), v3 (), v4 (), x0, x1]
      rw [if_pos (by omega)]
      refine ⟨⟨by omega, by omega⟩, ⟨by omega, by omega⟩, ⟨by omega, by omega⟩, ⟨by omega, by omega⟩, ⟨by omega, by omega⟩, ?_⟩
      refine ih (k + 1) _ (by omega) (by omega) ((((f.setr rfl).setr rfl).setr rfl).setr rfl) ⟨?_, ?_, fun p hp => ?_⟩
      · rw [ms_app, if_pos rfl, if_neg (by omega), ms_app, if_pos rfl, if_neg (by omega), ms_app, if_pos rfl, if_neg (by omega), ms_app, if_pos rfl, if_neg (by omega)]
        exact h1.1
      · rw [ms_app, if_pos rfl, if_neg (by omega), ms_app, if_pos rfl, if_neg (by omega), ms_app, if_pos rfl, if_neg (by omega), ms_app, if_pos rfl, if_neg (by omega)]
        exact h1.2.1
      · by_cases e : p = k
        · subst e
          refine ⟨?_, ?_, ?_, ?_⟩
          · rw [ms_app, if_pos rfl, if_neg (by omega), ms_app, if_pos rfl, if_neg (by omega), ms_app, if_pos rfl, if_neg (by omega), ms_app, if_pos rfl, if_pos rfl]
          · rw [ms_app, if_pos rfl, if_neg (by omega), ms_app, if_pos rfl, if_neg (by omega), ms_app, if_pos rfl, if_pos rfl]
          · rw [ms_app, if_pos rfl, if_neg (by omega), ms_app, if_pos rfl, if_pos rfl]
          · rw [ms_app, if_pos rfl, if_pos rfl]
        · obtain ⟨y1, y2, y3, y4⟩ := h1.2.2 p (by omega)
          refine ⟨?_, ?_, ?_, ?_⟩
          · rw [ms_app, if_pos rfl, if_neg (by omega), ms_app, if_pos rfl, if_neg (by omega), ms_app, if_pos rfl, if_neg (by omega), ms_app, if_pos rfl, if_neg (by omega)]; exact y1
          · rw [ms_app, if_pos rfl, if_neg (by omega), ms_app, if_pos rfl, if_neg (by omega), ms_app, if_pos rfl, if_neg (by omega), ms_app, if_pos rfl, if_neg (by omega)]; exact y2
          · rw [ms_app, if_pos rfl, if_neg (by omega), ms_app, if_pos rfl, if_neg (by omega), ms_app, if_pos rfl, if_neg (by omega), ms_app, if_pos rfl, if_neg (by omega)]; exact y3
          · rw [ms_app, if_pos rfl, if_neg (by omega), ms_app, if_pos rfl, if_neg (by omega), ms_app, if_pos rfl, if_neg (by omega), ms_app, if_pos rfl, if_neg (by omega)]; exact y4
  exact loop n 0 μ rfl (by omega) Fr.same ⟨hz 0 (by omega), hz 29 (by omega), fun p hp => absurd hp (by omega)⟩
def sdL : List Nat := [173, 174, 176, 178, 179, 180, 181, 182]
def sdT : List (Nat × Nat) := [(146, 65), (146, 58)]
theorem m_stands {n c : Nat} (hF : Fix μ) (hn : μ 173 0 = (n : Int)) (n7 : n ≤ 7) (hc : μ 146 44 = (c : Int)) (c16 : c ≤ 1600) (b0 : 0 ≤ μ 177 0 ∧ μ 177 0 < 128) (b1 : 0 ≤ μ 177 1 ∧ μ 177 1 < 128)
    (hK : ∀ μ', Fr sdL sdT μ μ' → (∀ j, j < 2 → μ' 173 (2 + j) = μ 173 j ∧ μ' 178 (2 + j) = μ 178 j) → (∀ j, j < 7 → μ' 174 (7 + j) = μ 174 j ∧ μ' 176 (7 + j) = μ 176 j) → (∀ j, j < 3 → μ' 179 (3 + j) = μ 179 j ∧ μ' 180 (3 + j) = μ 180 j) → (∀ j, j < c → μ' 181 (1600 + j) = μ 181 j) → sdS μ μ' n → μ' 146 65 = 0 → μ' 146 58 = 0 → K none μ') : Mt (d + 1) 176 [.inr (.inr 146)] μ K := by
  refine Mt.go (lv := [some (.inr (.inr 146)), none]) rfl rfl rfl ?_
  refine At.blk rfl rfl rfl fun sx => ?_
  simp (decide := true) only [RR, ms_app, toList_some, toList_none, if_true, if_false, true_and, and_true, cond_true, sm0, sm1, sm1l, sm2, lc_lt, lc_gt, lc_eq, Int.toNat_natCast, Int.reduceToNat, Nat.reduceAdd, Nat.reduceEqDiff, Int.reduceLT, Int.reduceEq, Int.reduceNeg, Int.reduceAdd, Int.reduceMul, Nat.reduceMul, ms_n, ms_i, ms_l, ms_p, PM]
  refine sd_a hF (fun μ1 f1 h1 => ?_)
  have F1 : Fr sdL sdT μ μ1 := f1.mono rfl
  refine At.blk rfl rfl rfl fun sx => ?_
  simp (decide := true) only [RR, ms_app, toList_some, toList_none, if_true, if_false, true_and, and_true, cond_true, sm0, sm1, sm1l, sm2, lc_lt, lc_gt, lc_eq, Int.toNat_natCast, Int.reduceToNat, Nat.reduceAdd, Nat.reduceEqDiff, Int.reduceLT, Int.reduceEq, Int.reduceNeg, Int.reduceAdd, Int.reduceMul, Nat.reduceMul, ms_n, ms_i, ms_l, ms_p, PM]
  refine sd_b (hF.fr F1 rfl) (fun μ2 f2 h2 => ?_)
  have F2 : Fr sdL sdT μ μ2 := F1.trans (f2.mono rfl)
  refine At.blk rfl rfl rfl fun sx => ?_
  simp (decide := true) only [RR, ms_app, toList_some, toList_none, if_true, if_false, true_and, and_true, cond_true, sm0, sm1, sm1l, sm2, lc_lt, lc_gt, lc_eq, Int.toNat_natCast, Int.reduceToNat, Nat.reduceAdd, Nat.reduceEqDiff, Int.reduceLT, Int.reduceEq, Int.reduceNeg, Int.reduceAdd, Int.reduceMul, Nat.reduceMul, ms_n, ms_i, ms_l, ms_p, PM]
  refine sd_c (hF.fr F2 rfl) (fun μ3 f3 h3 => ?_)
  have F3 : Fr sdL sdT μ μ3 := F2.trans (f3.mono rfl)
  refine At.blk rfl rfl rfl fun sx => ?_
  simp (decide := true) only [RR, ms_app, toList_some, toList_none, if_true, if_false, true_and, and_true, cond_true, sm0, sm1, sm1l, sm2, lc_lt, lc_gt, lc_eq, Int.toNat_natCast, Int.reduceToNat, Nat.reduceAdd, Nat.reduceEqDiff, Int.reduceLT, Int.reduceEq, Int.reduceNeg, Int.reduceAdd, Int.reduceMul, Nat.reduceMul, ms_n, ms_i, ms_l, ms_p, PM]
  refine sd_d (c := c) (hF.fr F3 rfl) ((F3 146 44 rfl).trans hc) c16 (fun μ4 f4 h4 => ?_)
  have F4 : Fr sdL sdT μ μ4 := F3.trans (f4.mono rfl)
  refine At.blk rfl rfl rfl fun sx => ?_
  simp (decide := true) only [RR, ms_app, toList_some, toList_none, if_true, if_false, true_and, and_true, cond_true, sm0, sm1, sm1l, sm2, lc_lt, lc_gt, lc_eq, Int.toNat_natCast, Int.reduceToNat, Nat.reduceAdd, Nat.reduceEqDiff, Int.reduceLT, Int.reduceEq, Int.reduceNeg, Int.reduceAdd, Int.reduceMul, Nat.reduceMul, ms_n, ms_i, ms_l, ms_p, PM]
  refine sd_e (hF.fr F4 rfl) (fun μ5 f5 h5 => ?_)
  have F5 : Fr sdL sdT μ μ5 := F4.trans (f5.mono rfl)
  have e177 : μ5 177 = μ 177 := F5.row 177 rfl
  have e175 : μ5 175 = μ 175 := F5.row 175 rfl
  have e173 : ∀ j, j < 2 → μ5 173 (2 + j) = μ 173 j ∧ μ5 173 j = μ 173 j := fun j hj => by
    have e : μ5 173 = μ1 173 := by rw [f5.row 173 rfl, f4.row 173 rfl, f3.row 173 rfl, f2.row 173 rfl]
    rw [e]; exact ⟨(h1 j hj).1, (h1 j hj).2.2.1⟩
  refine At.blk rfl rfl rfl fun sx => ?_
  simp (decide := true) only [RR, ms_app, toList_some, toList_none, if_true, if_false, true_and, and_true, cond_true, sm0, sm1, sm1l, sm2, lc_lt, lc_gt, lc_eq, Int.toNat_natCast, Int.reduceToNat, Nat.reduceAdd, Nat.reduceEqDiff, Int.reduceLT, Int.reduceEq, Int.reduceNeg, Int.reduceAdd, Int.reduceMul, Nat.reduceMul, ms_n, ms_i, ms_l, ms_p, PM]
  refine sd_f (n := n) (hF.fr F5 rfl) ((e173 0 (by omega)).2.trans hn) n7 (by rw [e177]; exact b0) (by rw [e177]; exact b1) h5 (fun μ6 f6 h6 => ?_)
  refine At.blk rfl rfl rfl fun sx => ?_
  simp (decide := true) only [RR, ms_app, toList_some, toList_none, if_true, if_false, true_and, and_true, cond_true, sm0, sm1, sm1l, sm2, lc_lt, lc_gt, lc_eq, Int.toNat_natCast, Int.reduceToNat, Nat.reduceAdd, Nat.reduceEqDiff, Int.reduceLT, Int.reduceEq, Int.reduceNeg, Int.reduceAdd, Int.reduceMul, Nat.reduceMul, ms_n, ms_i, ms_l, ms_p, PM]
  refine hK _ (((F5.trans (f6.mono rfl)).set rfl).set rfl) (fun j hj => ⟨?_, ?_⟩) (fun j hj => ⟨?_, ?_⟩) (fun j hj => ⟨?_, ?_⟩) (fun j hj => ?_) ?_ rfl rfl
  · show μ6 173 (2 + j) = _
    rw [f6.row 173 rfl]; exact (e173 j hj).1
  · show μ6 178 (2 + j) = _
    rw [f6.row 178 rfl, f5.row 178 rfl, f4.row 178 rfl, f3.row 178 rfl, f2.row 178 rfl]; exact (h1 j hj).2.1
  · show μ6 174 (7 + j) = _
    rw [f6.row 174 rfl, f5.row 174 rfl, f4.row 174 rfl, f3.row 174 rfl, (h2 j hj).1, f1.row 174 rfl]
  · show μ6 176 (7 + j) = _
    rw [f6.row 176 rfl, f5.row 176 rfl, f4.row 176 rfl, f3.row 176 rfl, (h2 j hj).2, f1.row 176 rfl]
  · show μ6 179 (3 + j) = _
    rw [f6.row 179 rfl, f5.row 179 rfl, f4.row 179 rfl, (h3 j hj).1, f2.row 179 rfl, f1.row 179 rfl]
  · show μ6 180 (3 + j) = _
    rw [f6.row 180 rfl, f5.row 180 rfl, f4.row 180 rfl, (h3 j hj).2, f2.row 180 rfl, f1.row 180 rfl]
  · show μ6 181 (1600 + j) = _
    rw [f6.row 181 rfl, f5.row 181 rfl, h4 j hj, f3.row 181 rfl, f2.row 181 rfl, f1.row 181 rfl]
  · obtain ⟨y1, y2, y3⟩ := h6
    refine ⟨y1, y2, fun p hp => ?_⟩
    have := y3 p hp
    rw [e177, e175] at this
    exact this
end
