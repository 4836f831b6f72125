def clL : List Nat := [4, 5, 6, 8, 9, 10, 12, 13, 14, 16, 17, 18, 29, 30]
def clT : List (Nat × Nat) := [(1, 1), (3, 4), (3, 5), (3, 6), (3, 7), (3, 8), (3, 9), (7, 3), (28, 2), (28, 3), (28, 4), (31, 1), (39, 1), (41, 3), (20, 1), (20, 2), (20, 3), (20, 4), (20, 5), (19, 2), (19, 3), (19, 5), (15, 3), (11, 4), (11, 5), (11, 6), (11, 7), (11, 8), (11, 9)]
section
variable {d : Nat} {σ : mM} {K : Option mV → mM → Prop}
theorem x_rulesCopy {L : Nat} (hF : Fix σ) (hL : σ 15 3 = (L : Int)) (L16 : L ≤ 1603) (hK : K none (mj_cpy (mj_cpy (mj_cpy (mj_set σ 7 3 (L : Int)) 16 0 8 0 L) 17 0 9 0 4) 18 0 10 0 4)) : Mt (d + 1) 70 [.inr (.inr 7), .inr (.inr 15)] σ K := by
  refine Mt.go (lv := [some (.inr (.inr 7)), some (.inr (.inr 15))]) rfl rfl rfl ?_
  refine At.blk rfl rfl rfl fun sx => ?_
  simp (decide := true) only [RR, ms_app, toList_some, toList_none, if_true, if_false, true_and, and_true, cond_true, sm0, sm1, sm1l, sm2, lc_lt, lc_gt, lc_eq, Int.toNat_natCast, Int.reduceToNat, Nat.reduceAdd, Nat.reduceEqDiff, Int.reduceLT, Int.reduceEq, Int.reduceNeg, Int.reduceAdd, Int.reduceMul, Nat.reduceMul, ms_n, ms_i, ms_l, ms_p, PX, fxX hF, hL, mc_app, Bool.and_self, Int.add_zero, Int.zero_add, Int.reduceLE, Int.le_refl, Int.cast_ofNat_Int]
  exact ⟨⟨by omega, by omega⟩, hK⟩
/-- the draft becomes the city -/
theorem x_cityCopy {L : Nat} (hF : Fix σ) (hL : σ 15 3 = (L : Int)) (L16 : L ≤ 1603) (hK : ∀ σ', Fr clL clT σ σ' → (∀ p, p < 7 → σ' 4 p = σ 12 p ∧ σ' 5 p = σ 13 p ∧ σ' 6 p = σ 14 p) → (∀ k, k < L → σ' 8 k = σ 16 k) → (∀ r, r < 4 → σ' 9 r = σ 17 r ∧ σ' 10 r = σ 18 r) → (σ' 3 4 = σ 11 4 ∧ σ' 3 5 = σ 11 5 ∧ σ' 3 6 = σ 11 6 ∧ σ' 3 7 = σ 11 7 ∧ σ' 3 8 = σ 11 8 ∧ σ' 3 9 = σ 11 9) → (σ' 1 1 = σ 1 1 ∧ σ' 19 2 = σ 19 2 ∧ σ' 19 3 = σ 19 3) → K none σ') : Mt (d + 2) 7 [.inr (.inr 3), .inr (.inr 11)] σ K := by
  refine Mt.go (lv := [some (.inr (.inr 3)), some (.inr (.inr 11))]) rfl rfl rfl ?_
  refine At.blk rfl rfl rfl fun sx => ?_
  simp (decide := true) only [RR, ms_app, toList_some, toList_none, if_true, if_false, true_and, and_true, cond_true, sm0, sm1, sm1l, sm2, lc_lt, lc_gt, lc_eq, Int.toNat_natCast, Int.reduceToNat, Nat.reduceAdd, Nat.reduceEqDiff, Int.reduceLT, Int.reduceEq, Int.reduceNeg, Int.reduceAdd, Int.reduceMul, Nat.reduceMul, ms_n, ms_i, ms_l, ms_p, PX, fxX hF, mc_app, Bool.and_self, Int.add_zero, Int.zero_add, Int.reduceLE, Int.le_refl, Int.cast_ofNat_Int]
  have F1 : Fr clL clT σ (mj_cpy (mj_cpy (mj_cpy σ 12 0 4 0 7) 13 0 5 0 7) 14 0 6 0 7) := ((Fr.same.cpy rfl).cpy rfl).cpy rfl
  have hF1 := hF.fr F1 rfl
  refine cal_of rfl (x_rulesCopy (L := L) hF1 hL L16 ?_)
  simp (decide := true) only [RR, ms_app, toList_some, toList_none, if_true, if_false, true_and, and_true, cond_true, sm0, sm1, sm1l, sm2, lc_lt, lc_gt, lc_eq, Int.toNat_natCast, Int.reduceToNat, Nat.reduceAdd, Nat.reduceEqDiff, Int.reduceLT, Int.reduceEq, Int.reduceNeg, Int.reduceAdd, Int.reduceMul, Nat.reduceMul, ms_n, ms_i, ms_l, ms_p, PX, mc_app]
  refine hK _ ((((((((((F1.set rfl).cpy rfl).cpy rfl).cpy rfl).set rfl).set rfl).set rfl).set rfl).set rfl).set rfl) (fun p hp => ⟨?_, ?_, ?_⟩) (fun k hk => ?_) (fun r hr => ⟨?_, ?_⟩) ⟨rfl, rfl, rfl, rfl, rfl, rfl⟩ ⟨rfl, rfl, rfl⟩
  · simp only [ms_app, mc_app, Nat.reduceEqDiff, if_false, if_true, Nat.zero_add, Nat.zero_le, true_and, Nat.sub_zero, hp]
  · simp only [ms_app, mc_app, Nat.reduceEqDiff, if_false, if_true, Nat.zero_add, Nat.zero_le, true_and, Nat.sub_zero, hp]
  · simp only [ms_app, mc_app, Nat.reduceEqDiff, if_false, if_true, Nat.zero_add, Nat.zero_le, true_and, Nat.sub_zero, hp]
  · simp only [ms_app, mc_app, Nat.reduceEqDiff, if_false, if_true, Nat.zero_add, Nat.zero_le, true_and, Nat.sub_zero, hk]
  · simp only [ms_app, mc_app, Nat.reduceEqDiff, if_false, if_true, Nat.zero_add, Nat.zero_le, true_and, Nat.sub_zero, hr]
  · simp only [ms_app, mc_app, Nat.reduceEqDiff, if_false, if_true, Nat.zero_add, Nat.zero_le, true_and, Nat.sub_zero, hr]
theorem x_fill30 (hK : ∀ σ', Fr [30] [] σ σ' → (∀ k, k < 7 → σ' 30 k = 255) → K none σ') : Mt (d + 1) 280 [.inr (.inr 30), .inl 255] σ K := by
  refine Mt.go (lv := [some (.inr (.inr 30)), some (.inl 255), none, none]) rfl rfl rfl ?_
  refine At.blk rfl rfl rfl fun sx => ?_
  simp (decide := true) only [RR, ms_app, toList_some, toList_none, if_true, if_false, true_and, and_true, cond_true, sm0, sm1, sm1l, sm2, lc_lt, lc_gt, lc_eq, Int.toNat_natCast, Int.reduceToNat, Nat.reduceAdd, Nat.reduceEqDiff, Int.reduceLT, Int.reduceEq, Int.reduceNeg, Int.reduceAdd, Int.reduceMul, Nat.reduceMul, ms_n, ms_i, ms_l, ms_p, PX]
  have loop : ∀ m k : Nat, 7 - k = m → k ≤ 7 → ∀ σ', Fr [30] [] σ σ' → (∀ j, j < k → σ' 30 j = 255) → At d 280 1 [some (.inr (.inr 30)), some (.inl 255), some (.inl (k : Int)), some (.inl 7)] [] σ' K := by
    intro m
    induction m with
    | zero =>
      intro k hk hk2 σ' fr h
      obtain rfl : k = 7 := by omega
      refine At.blk rfl rfl rfl fun sx => ?_
      simp (decide := true) only [RR, ms_app, toList_some, toList_none, if_true, if_false, true_and, and_true, cond_true, sm0, sm1, sm1l, sm2, lc_lt, lc_gt, lc_eq, Int.toNat_natCast, Int.reduceToNat, Nat.reduceAdd, Nat.reduceEqDiff, Int.reduceLT, Int.reduceEq, Int.reduceNeg, Int.reduceAdd, Int.reduceMul, Nat.reduceMul, ms_n, ms_i, ms_l, ms_p, PX]
      refine At.blk rfl rfl rfl fun sx => ?_
      simp (decide := true) only [RR, ms_app, toList_some, toList_none, if_true, if_false, true_and, and_true, cond_true, sm0, sm1, sm1l, sm2, lc_lt, lc_gt, lc_eq, Int.toNat_natCast, Int.reduceToNat, Nat.reduceAdd, Nat.reduceEqDiff, Int.reduceLT, Int.reduceEq, Int.reduceNeg, Int.reduceAdd, Int.reduceMul, Nat.reduceMul, ms_n, ms_i, ms_l, ms_p, PX]
      exact hK σ' fr h
    | succ m ih =>
      intro k hk hk2 σ' fr h
      have w1 : Unit → w32 ((k : Int) + 1) = ((k + 1 : Nat) : Int) := fun _ => by rw [w32_small (by omega) (by omega)]; omega
      refine At.blk rfl rfl rfl fun sx => ?_
      simp (decide := true) only [RR, ms_app, toList_some, toList_none, if_true, if_false, true_and, and_true, cond_true, sm0, sm1, sm1l, sm2, lc_lt, lc_gt, lc_eq, Int.toNat_natCast, Int.reduceToNat, Nat.reduceAdd, Nat.reduceEqDiff, Int.reduceLT, Int.reduceEq, Int.reduceNeg, Int.reduceAdd, Int.reduceMul, Nat.reduceMul, ms_n, ms_i, ms_l, ms_p, PX, w1 ()]
      rw [if_pos (by omega)]
      refine ⟨⟨by omega, by omega⟩, ?_⟩
      refine ih (k + 1) (by omega) (by omega) _ (fr.setr rfl) (fun j hj => ?_)
      rw [ms_app, if_pos rfl]
      by_cases e : j = k
      · rw [if_pos e]
      · rw [if_neg e]; exact h j (by omega)
  exact loop 7 0 rfl (by omega) σ Fr.same (fun j h => absurd h (by omega))
theorem x_startIn (hF : Fix σ) (hK : ∀ σ', Fr clL clT σ σ' → Fr [29, 30] [(28, 2), (28, 3), (28, 4)] σ σ' → (∀ p, p < 7 → σ' 29 p = σ 5 p ∧ σ' 30 p = 255) → (σ' 28 2 = 0 ∧ σ' 28 3 = σ 3 6 ∧ σ' 28 4 = σ 3 7) → K none σ') : Mt (d + 2) 77 [.inr (.inr 28), .inr (.inr 3)] σ K := by
  refine Mt.go (lv := [some (.inr (.inr 28)), some (.inr (.inr 3))]) rfl rfl rfl ?_
  refine At.blk rfl rfl rfl fun sx => ?_
  simp (decide := true) only [RR, ms_app, toList_some, toList_none, if_true, if_false, true_and, and_true, cond_true, sm0, sm1, sm1l, sm2, lc_lt, lc_gt, lc_eq, Int.toNat_natCast, Int.reduceToNat, Nat.reduceAdd, Nat.reduceEqDiff, Int.reduceLT, Int.reduceEq, Int.reduceNeg, Int.reduceAdd, Int.reduceMul, Nat.reduceMul, ms_n, ms_i, ms_l, ms_p, PX, fxX hF, mc_app, Bool.and_self, Int.add_zero, Int.zero_add, Int.reduceLE, Int.le_refl, Int.cast_ofNat_Int]
  refine cal_of rfl (x_fill30 (fun σ1 f1 h1 => ?_))
  have e6 : σ1 3 6 = σ 3 6 := f1 3 6 rfl
  have e7 : σ1 3 7 = σ 3 7 := f1 3 7 rfl
  simp (decide := true) only [RR, ms_app, toList_some, toList_none, if_true, if_false, true_and, and_true, cond_true, sm0, sm1, sm1l, sm2, lc_lt, lc_gt, lc_eq, Int.toNat_natCast, Int.reduceToNat, Nat.reduceAdd, Nat.reduceEqDiff, Int.reduceLT, Int.reduceEq, Int.reduceNeg, Int.reduceAdd, Int.reduceMul, Nat.reduceMul, ms_n, ms_i, ms_l, ms_p, PX, e6, e7]
  have G : Fr [29, 30] [(28, 2), (28, 3), (28, 4)] σ (mj_set (mj_set (mj_set σ1 28 2 0) 28 3 (σ 3 6)) 28 4 (σ 3 7)) := (((((Fr.same.cpy rfl).trans (f1.mono rfl)).set rfl).set rfl).set rfl)
  refine hK _ (G.mono rfl) G (fun p hp => ⟨?_, h1 p hp⟩) ⟨rfl, rfl, rfl⟩
  show σ1 29 p = σ 5 p
  rw [f1 29 p rfl, mc_app, if_pos rfl, if_pos ⟨Nat.zero_le _, by omega⟩, Nat.zero_add, Nat.sub_zero]
/-- the town out of the draft -/
def cyTn (σ1 τ : mM) : Prop := ∃ L : Nat, σ1 15 3 = (L : Int) ∧ L ≤ 1600 ∧ (τ 3 4 = σ1 11 4 ∧ τ 3 5 = σ1 11 5 ∧ τ 3 8 = σ1 11 8 ∧ τ 3 9 = σ1 11 9) ∧ (τ 28 2 = 0 ∧ τ 28 3 = σ1 11 6 ∧ τ 28 4 = σ1 11 7) ∧ (∀ p, p < 7 → τ 4 p = σ1 12 p ∧ τ 6 p = σ1 14 p ∧ τ 29 p = σ1 13 p ∧ τ 30 p = 255) ∧ (∀ k, k < L → τ 8 k = σ1 16 k) ∧ ∀ r, r < 3 → (σ1 17 r < σ1 18 r ∧ τ 9 r = σ1 17 r ∧ τ 10 r = σ1 18 r) ∨ (¬(σ1 17 r < σ1 18 r) ∧ ∃ a : Nat, a ≤ 1602 ∧ τ 9 r = (a : Int) ∧ τ 10 r = (a : Int) + 1 ∧ τ 8 a = cyU r)
theorem x_city {N : Nat} {t : Nat → Int} (hF : Fix σ) (hT : TxX σ N t)
    (h1 : ∀ σ' σ0 σ1 s0 m, Fr clL clT σ σ' → Skp N t 0 s0 → cyZ σ0 → m ≤ 80 → cySs N t s0 σ0 m N σ1 → cyTn σ1 σ' → (σ' 1 1 = 0 ∧ σ' 19 2 = 0 ∧ σ' 19 3 = -1 ∧ σ' 39 1 = 0 ∧ σ' 31 1 = 0 ∧ σ' 41 3 = 0) → K (some (.inl (m : Int))) σ')
    (h0 : ∀ σ' σ0 s0 k x, Fr (145 :: cyL) ((1, 1) :: cyT) σ σ' → Skp N t 0 s0 → cyZ σ0 → cyXx N t s0 σ0 k x → (σ' 1 1 = 0 ∧ σ' 19 2 = k ∧ σ' 19 3 = x) → σ' 145 1 = w32 (σ 145 1 + 1) → (∀ j, j ≠ 1 → σ' 145 j = σ 145 j) → K (some (.inl (-1))) σ') : Mt (d + 43) 108 [.inr (.inr 0)] σ K := by
  have n16 := hT.2.1
  refine Mt.go (lv := [some (.inr (.inr 0)), none]) rfl rfl rfl ?_
  refine At.blk rfl rfl rfl fun sx => ?_
  simp (decide := true) only [RR, ms_app, toList_some, toList_none, if_true, if_false, true_and, and_true, cond_true, sm0, sm1, sm1l, sm2, lc_lt, lc_gt, lc_eq, Int.toNat_natCast, Int.reduceToNat, Nat.reduceAdd, Nat.reduceEqDiff, Int.reduceLT, Int.reduceEq, Int.reduceNeg, Int.reduceAdd, Int.reduceMul, Nat.reduceMul, ms_n, ms_i, ms_l, ms_p, PX, fxX hF]
  refine cal_of rfl (x_parseCity hF hT (fun σ1 σ0 σd s0 m L f1 k0 hz hm hs hD hL hf e2 e3 => ?_) (fun σ1 σ0 s0 k x f1 k0 hz hx e2 e3 => ?_))
  · have hF1 := hF.fr f1 rfl
    have FF1 : Fr clL clT σ (mj_set σ1 1 1 0) := (f1.mono rfl).set rfl
    have hFF1 := hF.fr FF1 rfl
    have Lb := hD.2.2.2.2.2.2
    obtain ⟨ff, L1, hL1, a1, a2, a3, a4, a5⟩ := hf
    simp (decide := true) only [RR, ms_app, toList_some, toList_none, if_true, if_false, true_and, and_true, cond_true, sm0, sm1, sm1l, sm2, lc_lt, lc_gt, lc_eq, Int.toNat_natCast, Int.reduceToNat, Nat.reduceAdd, Nat.reduceEqDiff, Int.reduceLT, Int.reduceEq, Int.reduceNeg, Int.reduceAdd, Int.reduceMul, Nat.reduceMul, ms_n, ms_i, ms_l, ms_p, PX, fxX hF1]
    rw [if_neg (by omega)]
    refine At.blk rfl rfl rfl fun sx => ?_
    simp (decide := true) only [RR, ms_app, toList_some, toList_none, if_true, if_false, true_and, and_true, cond_true, sm0, sm1, sm1l, sm2, lc_lt, lc_gt, lc_eq, Int.toNat_natCast, Int.reduceToNat, Nat.reduceAdd, Nat.reduceEqDiff, Int.reduceLT, Int.reduceEq, Int.reduceNeg, Int.reduceAdd, Int.reduceMul, Nat.reduceMul, ms_n, ms_i, ms_l, ms_p, PX, fxX hF1]
    refine cal_of rfl (x_cityCopy (L := L1) hFF1 hL1 (by omega) (fun σ2 f2 g1 g2 g3 g4 g5 => ?_))
    have F2 := FF1.trans f2
    have hF2 := hF.fr F2 rfl
    simp (decide := true) only [RR, ms_app, toList_some, toList_none, if_true, if_false, true_and, and_true, cond_true, sm0, sm1, sm1l, sm2, lc_lt, lc_gt, lc_eq, Int.toNat_natCast, Int.reduceToNat, Nat.reduceAdd, Nat.reduceEqDiff, Int.reduceLT, Int.reduceEq, Int.reduceNeg, Int.reduceAdd, Int.reduceMul, Nat.reduceMul, ms_n, ms_i, ms_l, ms_p, PX, fxX hF2]
    refine cal_of rfl (x_startIn hF2 (fun σ3 f3 f3' j1 j2 => ?_))
    have F3 := F2.trans f3
    have hF3 := hF.fr F3 rfl
    simp (decide := true) only [RR, ms_app, toList_some, toList_none, if_true, if_false, true_and, and_true, cond_true, sm0, sm1, sm1l, sm2, lc_lt, lc_gt, lc_eq, Int.toNat_natCast, Int.reduceToNat, Nat.reduceAdd, Nat.reduceEqDiff, Int.reduceLT, Int.reduceEq, Int.reduceNeg, Int.reduceAdd, Int.reduceMul, Nat.reduceMul, ms_n, ms_i, ms_l, ms_p, PX, fxX hF3]
    refine h1 _ σ0 σd s0 m (((F3.set rfl).set rfl).set rfl) k0 hz hm hs ⟨L, hL, by omega, ⟨?_, ?_, ?_, ?_⟩, ⟨?_, ?_, ?_⟩, fun p hp => ⟨?_, ?_, ?_, ?_⟩, fun k hk => ?_, fun r hr => ?_⟩ ⟨?_, ?_, ?_, rfl, rfl, rfl⟩
    · show σ3 3 4 = _
      rw [f3' 3 4 rfl, g4.1]; exact ff 11 4 rfl
    · show σ3 3 5 = _
      rw [f3' 3 5 rfl, g4.2.1]; exact ff 11 5 rfl
    · show σ3 3 8 = _
      rw [f3' 3 8 rfl, g4.2.2.2.2.1]; exact ff 11 8 rfl
    · show σ3 3 9 = _
      rw [f3' 3 9 rfl, g4.2.2.2.2.2]; exact ff 11 9 rfl
    · exact j2.1
    · show σ3 28 3 = _
      rw [j2.2.1, g4.2.2.1]; exact ff 11 6 rfl
    · show σ3 28 4 = _
      rw [j2.2.2, g4.2.2.2.1]; exact ff 11 7 rfl
    · show σ3 4 p = _
      rw [f3' 4 p rfl, (g1 p hp).1]; exact ff 12 p rfl
    · show σ3 6 p = _
      rw [f3' 6 p rfl, (g1 p hp).2.2]; exact ff 14 p rfl
    · show σ3 29 p = _
      rw [(j1 p hp).1, (g1 p hp).2.1]; exact ff 13 p rfl
    · exact (j1 p hp).2
    · show σ3 8 k = _
      rw [f3' 8 k rfl, g2 k (by omega)]; exact a3 k hk
    · have x9 : σ3 9 r = σ1 17 r := by rw [f3' 9 r rfl, (g3 r (by omega)).1]; rfl
      have x10 : σ3 10 r = σ1 18 r := by rw [f3' 10 r rfl, (g3 r (by omega)).2]; rfl
      show (_ ∧ σ3 9 r = _ ∧ σ3 10 r = _) ∨ (_ ∧ ∃ a : Nat, _ ∧ σ3 9 r = _ ∧ σ3 10 r = _ ∧ σ3 8 a = _)
      rw [x9, x10]
      rcases a5 r hr with h | ⟨h, a, y1, y2, y3, y4⟩
      · exact Or.inl h
      · refine Or.inr ⟨h, a, by omega, y1, y2, ?_⟩
        rw [f3' 8 a rfl, g2 a (by omega)]; exact y4
    · show σ3 1 1 = 0
      rw [f3' 1 1 rfl, g5.1]; rfl
    · show σ3 19 2 = 0
      rw [f3' 19 2 rfl, g5.2.1]; exact e2
    · show σ3 19 3 = -1
      rw [f3' 19 3 rfl, g5.2.2]; exact e3
  · have hF1 := hF.fr f1 rfl
    have hFF1 : Fix (mj_set σ1 1 1 0) := hF1.fr ((Fr.same (L := []) (T := clT)).set rfl) rfl
    simp (decide := true) only [RR, ms_app, toList_some, toList_none, if_true, if_false, true_and, and_true, cond_true, sm0, sm1, sm1l, sm2, lc_lt, lc_gt, lc_eq, Int.toNat_natCast, Int.reduceToNat, Nat.reduceAdd, Nat.reduceEqDiff, Int.reduceLT, Int.reduceEq, Int.reduceNeg, Int.reduceAdd, Int.reduceMul, Nat.reduceMul, ms_n, ms_i, ms_l, ms_p, PX, fxX hF1]
    refine cal_of rfl (x_refuse (k := 1) hFF1 (by decide) ?_)
    simp (decide := true) only [RR, ms_app, toList_some, toList_none, if_true, if_false, true_and, and_true, cond_true, sm0, sm1, sm1l, sm2, lc_lt, lc_gt, lc_eq, Int.toNat_natCast, Int.reduceToNat, Nat.reduceAdd, Nat.reduceEqDiff, Int.reduceLT, Int.reduceEq, Int.reduceNeg, Int.reduceAdd, Int.reduceMul, Nat.reduceMul, ms_n, ms_i, ms_l, ms_p, PX]
    refine h0 _ σ0 s0 k x (((f1.mono rfl).set rfl).set rfl) k0 hz hx ⟨rfl, e2, e3⟩ ?_ (fun j hj => ?_)
    · rw [ms_app, if_pos rfl, if_pos rfl]
      show w32 (σ1 145 1 + 1) = _
      rw [f1 145 1 rfl]
    · rw [ms_app, if_pos rfl, if_neg hj]
      exact f1 145 j rfl
end
