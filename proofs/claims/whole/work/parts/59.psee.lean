theorem seeG_cg {r r' : Nat → Int} {n n' l l' : Int} (hn : n = n') (hl : l = l') (hr : ∀ k : Nat, (k : Int) < l → r k = r' k) : seeG r n l ↔ seeG r' n' l' := by
  subst hn; subst hl
  unfold seeG
  refine and_congr_right (fun h => ?_)
  constructor
  · intro g i hi
    have := g i hi
    unfold seeB at *
    rw [← hr (3 * i) (by omega), ← hr (3 * i + 1) (by omega), ← hr (3 * i + 2) (by omega)]
    exact this
  · intro g i hi
    have := g i hi
    unfold seeB at *
    rw [hr (3 * i) (by omega), hr (3 * i + 1) (by omega), hr (3 * i + 2) (by omega)]
    exact this
theorem p_see {σ : mM} (h : Inv σ) : PairI Inv 122 220 [] σ := by
  have hF := h.1
  obtain ⟨t1, t2, t3⟩ := h.2.1
  obtain ⟨m1, m2, m3⟩ := h.many
  have iff : seeG (σ 2) (σ 3 4) (σ 1 1) ↔ seeG (σ 147) (σ 173 2) (σ 146 1) := seeG_cg m1.symm t1.symm (fun k hk => (t3 k hk).1.symm)
  refine Mt.go (lv := [some (.inr (.inr 0)), none]) rfl rfl rfl ?_
  refine At.blk rfl rfl rfl fun sx => ?_
  simp (decide := true) only [RR, ms_app, toList_some, toList_none, if_true, if_false, true_and, and_true, cond_true, sm0, sm1, sm1l, sm2, lc_lt, lc_gt, lc_eq, Int.toNat_natCast, Int.reduceToNat, Nat.reduceAdd, Nat.reduceEqDiff, Int.reduceLT, Int.reduceEq, Int.reduceNeg, Int.reduceAdd, Int.reduceMul, Nat.reduceMul, ms_n, ms_i, ms_l, ms_p, PX, fxX hF]
  refine cal_of rfl (x_isToldBy hF t2 (fun hg => ?_) (fun hg => ?_))
  · obtain ⟨L, hL⟩ : ∃ L : Nat, σ 1 1 = 3 * (L : Int) := ⟨(σ 1 1 / 3).toNat, by have := hg.1; omega⟩
    have hL2 : L ≤ 16 := by have := hg.1; omega
    simp (decide := true) only [RR, ms_app, toList_some, toList_none, if_true, if_false, true_and, and_true, cond_true, sm0, sm1, sm1l, sm2, lc_lt, lc_gt, lc_eq, Int.toNat_natCast, Int.reduceToNat, Nat.reduceAdd, Nat.reduceEqDiff, Int.reduceLT, Int.reduceEq, Int.reduceNeg, Int.reduceAdd, Int.reduceMul, Nat.reduceMul, ms_n, ms_i, ms_l, ms_p, PX, fxX hF]
    refine cal_of rfl (x_take hF hL hL2 ?_)
    simp (decide := true) only [RR, ms_app, toList_some, toList_none, if_true, if_false, true_and, and_true, cond_true, sm0, sm1, sm1l, sm2, lc_lt, lc_gt, lc_eq, Int.toNat_natCast, Int.reduceToNat, Nat.reduceAdd, Nat.reduceEqDiff, Int.reduceLT, Int.reduceEq, Int.reduceNeg, Int.reduceAdd, Int.reduceMul, Nat.reduceMul, ms_n, ms_i, ms_l, ms_p, PX]
    have hF1 : Fix (mj_set (mj_cpy σ 2 0 32 0 (3 * L)) 31 1 (L : Int)) := (fix_cpy hF rfl).set rfl
    refine At.blk rfl rfl rfl fun sx => ?_
    simp (decide := true) only [RR, ms_app, toList_some, toList_none, if_true, if_false, true_and, and_true, cond_true, sm0, sm1, sm1l, sm2, lc_lt, lc_gt, lc_eq, Int.toNat_natCast, Int.reduceToNat, Nat.reduceAdd, Nat.reduceEqDiff, Int.reduceLT, Int.reduceEq, Int.reduceNeg, Int.reduceAdd, Int.reduceMul, Nat.reduceMul, ms_n, ms_i, ms_l, ms_p, PX, fxX hF, mc_app]
    refine At.blk rfl rfl rfl fun sx => ?_
    simp (decide := true) only [RR, ms_app, toList_some, toList_none, if_true, if_false, true_and, and_true, cond_true, sm0, sm1, sm1l, sm2, lc_lt, lc_gt, lc_eq, Int.toNat_natCast, Int.reduceToNat, Nat.reduceAdd, Nat.reduceEqDiff, Int.reduceLT, Int.reduceEq, Int.reduceNeg, Int.reduceAdd, Int.reduceMul, Nat.reduceMul, ms_n, ms_i, ms_l, ms_p, PX]
    refine ⟨(L : Int), rfl, ?_⟩
    have hF2 : Fix (mj_set (mj_set (mj_cpy σ 2 0 32 0 (3 * L)) 31 1 (L : Int)) 1 1 0) := hF1.set rfl
    refine m_see hF2 (by show 0 ≤ σ 173 2 ∧ σ 173 2 ≤ 7; omega) (by show 0 ≤ σ 146 1 ∧ σ 146 1 ≤ 1600; omega) ?_ (fun hn => absurd (iff.mp hg) hn) (fun _ L' hL' => ?_)
    · intro k hk
      have hk : (k : Int) < σ 146 1 := hk
      have := t3 k (by omega)
      show 0 ≤ σ 147 k
      omega
    · have hL' : σ 146 1 = 3 * (L' : Int) := hL'
      obtain rfl : L' = L := by omega
      refine ⟨rfl, ?_⟩
      obtain ⟨hF, hT, hR, hf, hZ, hP, hS, hC, hN, hk2, hU, hth⟩ := h
      generalize hσ : mj_set (mj_cpy (mj_set (mj_set (mj_set (mj_cpy σ 2 0 32 0 (3 * L')) 31 1 (L' : Int)) 1 1 0) 146 1 0) 147 0 189 0 (3 * L')) 146 58 (L' : Int) = σ'
      have r : ∀ q, q ≠ 1 → q ≠ 31 → q ≠ 32 → q ≠ 146 → q ≠ 189 → σ' q = σ q := by
        intro q h1 h2 h3 h4 h5
        rw [← hσ, ms_row h4]
        funext k
        rw [mc_app, if_neg h5, ms_row h4, ms_row h1, ms_row h2, mc_app, if_neg h3]
      have hF' : Fix σ' := by rw [← hσ]; exact (fix_cpy (hF2.set rfl) rfl).set rfl
      have m146 : ∀ k, k ≠ 1 → k ≠ 58 → σ' 146 k = σ 146 k := by
        intro k h1 h2
        rw [← hσ, ms_app, if_pos rfl, if_neg h2, mc_app, if_neg (by decide), ms_app, if_pos rfl, if_neg h1]
        rfl
      have z1 : σ' 146 1 = 0 := by rw [← hσ]; rfl
      have z2 : σ' 1 1 = 0 := by rw [← hσ]; rfl
      have z3 : σ' 146 58 = (L' : Int) := by rw [← hσ]; rfl
      have z4 : σ' 31 1 = (L' : Int) := by rw [← hσ]; rfl
      have z5 : ∀ k, k < 3 * L' → σ' 189 k = σ 147 k := by
        intro k hk
        rw [← hσ, ms_row (by decide), mc_app, if_pos rfl, if_pos (by omega)]
        show σ 147 (0 + (k - 0)) = _
        rw [Nat.zero_add, Nat.sub_zero]
      have z6 : ∀ k, k < 3 * L' → σ' 32 k = σ 2 k := by
        intro k hk
        rw [← hσ, ms_row (by decide), mc_app, if_neg (by decide), ms_row (by decide), ms_row (by decide), ms_row (by decide), mc_app, if_pos rfl, if_pos (by omega), Nat.zero_add, Nat.sub_zero]
      have n34 : σ' 3 4 = σ 3 4 := by rw [r 3 (by decide) (by decide) (by decide) (by decide) (by decide)]
      refine ⟨hF', ⟨by rw [z1, z2], by rw [z2]; decide, fun k hk => by rw [z2] at hk; omega⟩, hR.cg (r _ (by decide) (by decide) (by decide) (by decide) (by decide)) (r _ (by decide) (by decide) (by decide) (by decide) (by decide)), hf.cg (m146 _ (by decide) (by decide)) (by rw [r 19 (by decide) (by decide) (by decide) (by decide) (by decide)]) (m146 _ (by decide) (by decide)) (by rw [r 19 (by decide) (by decide) (by decide) (by decide) (by decide)]), hZ.cg (m146 _ (by decide) (by decide)) (by rw [r 0 (by decide) (by decide) (by decide) (by decide) (by decide)]), hP.cg (m146 _ (by decide) (by decide)) (by rw [r 0 (by decide) (by decide) (by decide) (by decide) (by decide)]) (r _ (by decide) (by decide) (by decide) (by decide) (by decide)) (r _ (by decide) (by decide) (by decide) (by decide) (by decide)), ?_, hC.cg (r _ (by decide) (by decide) (by decide) (by decide) (by decide)) (r _ (by decide) (by decide) (by decide) (by decide) (by decide)) (r _ (by decide) (by decide) (by decide) (by decide) (by decide)) (r _ (by decide) (by decide) (by decide) (by decide) (by decide)) (r _ (by decide) (by decide) (by decide) (by decide) (by decide)) (r _ (by decide) (by decide) (by decide) (by decide) (by decide)) (r _ (by decide) (by decide) (by decide) (by decide) (by decide)) (r _ (by decide) (by decide) (by decide) (by decide) (by decide)) (r _ (by decide) (by decide) (by decide) (by decide) (by decide)) (r _ (by decide) (by decide) (by decide) (by decide) (by decide)) (r _ (by decide) (by decide) (by decide) (by decide) (by decide)) (r _ (by decide) (by decide) (by decide) (by decide) (by decide)) (r _ (by decide) (by decide) (by decide) (by decide) (by decide)), hN.cg (r _ (by decide) (by decide) (by decide) (by decide) (by decide)) (r _ (by decide) (by decide) (by decide) (by decide) (by decide)) (r _ (by decide) (by decide) (by decide) (by decide) (by decide)) (r _ (by decide) (by decide) (by decide) (by decide) (by decide)) n34, hk2.cg (r _ (by decide) (by decide) (by decide) (by decide) (by decide)) (r _ (by decide) (by decide) (by decide) (by decide) (by decide)) (r _ (by decide) (by decide) (by decide) (by decide) (by decide)), hU.cg (m146 _ (by decide) (by decide)) (by rw [r 41 (by decide) (by decide) (by decide) (by decide) (by decide)]) (m146 _ (by decide) (by decide)) (by rw [r 41 (by decide) (by decide) (by decide) (by decide) (by decide)]) n34 (r _ (by decide) (by decide) (by decide) (by decide) (by decide)) (fun q h1 h2 => r q (by omega) (by omega) (by omega) (by omega) (by omega)), (m146 _ (by decide) (by decide)).trans hth⟩
      refine ⟨by rw [z3, z4], by rw [z4]; omega, fun k hk => ?_, fun k hk => ?_⟩
      · rw [z4] at hk
        rw [z5 k (by omega), z6 k (by omega), (t3 k (by omega)).1]
      · rw [z4] at hk
        have g := hg.2 k (by omega)
        unfold seeB at g
        rw [z6 (3 * k) (by omega), z6 (3 * k + 1) (by omega), z6 (3 * k + 2) (by omega), n34]
        have b0 := t3 (3 * k) (by omega)
        have b1 := t3 (3 * k + 1) (by omega)
        have b2 := t3 (3 * k + 2) (by omega)
        omega
  · simp (decide := true) only [RR, ms_app, toList_some, toList_none, if_true, if_false, true_and, and_true, cond_true, sm0, sm1, sm1l, sm2, lc_lt, lc_gt, lc_eq, Int.toNat_natCast, Int.reduceToNat, Nat.reduceAdd, Nat.reduceEqDiff, Int.reduceLT, Int.reduceEq, Int.reduceNeg, Int.reduceAdd, Int.reduceMul, Nat.reduceMul, ms_n, ms_i, ms_l, ms_p, PX, fxX hF]
    refine At.blk rfl rfl rfl fun sx => ?_
    simp (decide := true) only [RR, ms_app, toList_some, toList_none, if_true, if_false, true_and, and_true, cond_true, sm0, sm1, sm1l, sm2, lc_lt, lc_gt, lc_eq, Int.toNat_natCast, Int.reduceToNat, Nat.reduceAdd, Nat.reduceEqDiff, Int.reduceLT, Int.reduceEq, Int.reduceNeg, Int.reduceAdd, Int.reduceMul, Nat.reduceMul, ms_n, ms_i, ms_l, ms_p, PX, fxX hF]
    have hF1 : Fix (mj_set σ 1 1 0) := hF.set rfl
    refine At.blk rfl rfl rfl fun sx => ?_
    simp (decide := true) only [RR, ms_app, toList_some, toList_none, if_true, if_false, true_and, and_true, cond_true, sm0, sm1, sm1l, sm2, lc_lt, lc_gt, lc_eq, Int.toNat_natCast, Int.reduceToNat, Nat.reduceAdd, Nat.reduceEqDiff, Int.reduceLT, Int.reduceEq, Int.reduceNeg, Int.reduceAdd, Int.reduceMul, Nat.reduceMul, ms_n, ms_i, ms_l, ms_p, PX, fxX hF]
    refine cal_of rfl (x_refuse (k := 1) hF1 (by decide) ?_)
    simp (decide := true) only [RR, ms_app, toList_some, toList_none, if_true, if_false, true_and, and_true, cond_true, sm0, sm1, sm1l, sm2, lc_lt, lc_gt, lc_eq, Int.toNat_natCast, Int.reduceToNat, Nat.reduceAdd, Nat.reduceEqDiff, Int.reduceLT, Int.reduceEq, Int.reduceNeg, Int.reduceAdd, Int.reduceMul, Nat.reduceMul, ms_n, ms_i, ms_l, ms_p, PX]
    refine At.blk rfl rfl rfl fun sx => ?_
    simp (decide := true) only [RR, ms_app, toList_some, toList_none, if_true, if_false, true_and, and_true, cond_true, sm0, sm1, sm1l, sm2, lc_lt, lc_gt, lc_eq, Int.toNat_natCast, Int.reduceToNat, Nat.reduceAdd, Nat.reduceEqDiff, Int.reduceLT, Int.reduceEq, Int.reduceNeg, Int.reduceAdd, Int.reduceMul, Nat.reduceMul, ms_n, ms_i, ms_l, ms_p, PX]
    refine ⟨-1, rfl, ?_⟩
    refine m_see (hF1.set rfl) (by show 0 ≤ σ 173 2 ∧ σ 173 2 ≤ 7; omega) (by show 0 ≤ σ 146 1 ∧ σ 146 1 ≤ 1600; omega) ?_ (fun _ => ?_) (fun hn => absurd (iff.mpr hn) hg)
    · intro k hk
      have hk : (k : Int) < σ 146 1 := hk
      have := t3 k (by omega)
      show 0 ≤ σ 147 k
      omega
    · refine ⟨rfl, ?_⟩
      have := h.tape0.ref (k := 1) (by decide)
      rw [ms_comm (q := 146) (by decide)] at this
      exact this
