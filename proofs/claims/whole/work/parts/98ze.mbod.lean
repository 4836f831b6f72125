section
variable {d : Nat} {σ μ : mM} {K : Option mV → mM → Prop} {N : Nat} {t : Nat → Int} {s0 s : Nat} {g : Bool}
theorem na_cm {μ1 : mM} (f : Fr [] naT μ μ1) : cyK cmT μ μ1 := cyK.of (f.mono rfl)
theorem ms_cm {μ1 : mM} (f : Fr [] msT μ μ1) : cyK cmT μ μ1 := cyK.of (f.mono rfl)
theorem tm_cm {μ1 : mM} (f : Fr [] tmT μ μ1) : cyK cmT μ μ1 := cyK.of (f.mono rfl)
theorem pow_le {n : Nat} (h : n ≤ 7) : (2 : Int) ^ n ≤ 128 := by
  rcases (show n = 0 ∨ n = 1 ∨ n = 2 ∨ n = 3 ∨ n = 4 ∨ n = 5 ∨ n = 6 ∨ n = 7 by omega) with rfl | rfl | rfl | rfl | rfl | rfl | rfl | rfl <;> decide
theorem pow_s {n : Nat} {x : Int} (h1 : 0 ≤ x) (h2 : x < 2 ^ n) : x < 2 ^ (n + 1) := by
  rw [Int.pow_succ]; omega
theorem m_aunt (hF : Fix μ) (hT : TxM μ N t) (hb : μ 146 5 = 0) (h6 : μ 146 6 = -1) (hP : PosM μ N t s g) (hR : cyR σ μ s0) (hs : s0 ≤ s)
    (H : (∃ s' g' τ, cyFl 6 N t s g σ s' g' τ ∧ s ≤ s' ∧ cyG N t μ s' g' τ K) ∨ (∃ k x, cyFn 6 N t s0 s g σ k x ∧ k ≠ 0 ∧ cyH μ k x K)) : Mt (d + 6) 172 [.inr (.inr 146), .inl 0] μ K := by
  obtain ⟨n, m, c, n7, m12, cs, R⟩ := id hR
  have hN : ∀ p, p < n → NameR (σ 12 p) (μ 174 p) := fun p hp => (R.2.2.2.2.2.2.2.1 p hp).1
  have p7 := pow_le n7
  refine Mt.go (lv := [some (.inr (.inr 146)), some (.inl 0), none]) rfl rfl rfl ?_
  have bad : ∀ (μ1 : mM) (i k x : Int), μ1 146 5 = k → μ1 146 6 = x → k ≠ 0 → cyK cmT μ μ1 → cyH μ k x K → At (d + 5) 172 1 [some (.inr (.inr 146)), some (.inl 0), some (.inl i)] [] μ1 K := by
    intro μ1 i k x e5 e6 hk f h
    refine At.blk rfl rfl rfl fun sx => ?_
    simp (decide := true) only [RR, ms_app, toList_some, toList_none, if_true, if_false, true_and, and_true, cond_true, sm0, sm1, sm1l, sm2, lc_lt, lc_gt, lc_eq, Int.toNat_natCast, Int.reduceToNat, Nat.reduceAdd, Nat.reduceEqDiff, Int.reduceLT, Int.reduceEq, Int.reduceNeg, Int.reduceAdd, Int.reduceMul, Nat.reduceMul, ms_n, ms_i, ms_l, ms_p, PM, e5]
    rw [if_neg hk]
    refine At.blk rfl rfl rfl fun sx => ?_
    simp (decide := true) only [RR, ms_app, toList_some, toList_none, if_true, if_false, true_and, and_true, cond_true, sm0, sm1, sm1l, sm2, lc_lt, lc_gt, lc_eq, Int.toNat_natCast, Int.reduceToNat, Nat.reduceAdd, Nat.reduceEqDiff, Int.reduceLT, Int.reduceEq, Int.reduceNeg, Int.reduceAdd, Int.reduceMul, Nat.reduceMul, ms_n, ms_i, ms_l, ms_p, PM]
    exact h μ1 f e5 e6
  refine At.blk rfl rfl rfl fun sx => ?_
  simp (decide := true) only [RR, ms_app, toList_some, toList_none, if_true, if_false, true_and, and_true, cond_true, sm0, sm1, sm1l, sm2, lc_lt, lc_gt, lc_eq, Int.toNat_natCast, Int.reduceToNat, Nat.reduceAdd, Nat.reduceEqDiff, Int.reduceLT, Int.reduceEq, Int.reduceNeg, Int.reduceAdd, Int.reduceMul, Nat.reduceMul, ms_n, ms_i, ms_l, ms_p, PM]
  rcases H with ⟨s', g', τ, ⟨n', e, p, a1, a2, a3, a4, a5, a6, a7⟩, hss, hG⟩ | ⟨k, x, ⟨n', a1, a2, a3⟩, hk, hH⟩
  · obtain rfl : n' = n := by have := R.1.1; omega
    have hp := a3.2.1
    refine cal_of rfl (m_one_ok hN a3 hF hT hb hP R.1.2 n7 (fun μ1 s2 k1 p1 c34 c5 c6 f1 => ?_))
    obtain rfl := k1.uniq a5
    have hF1 := hF.fr f1 rfl
    have R1 : cyR σ μ1 s2 := hR.cg cyE.refl (f1.mono rfl) (by omega)
    obtain ⟨n2, m2, c2, b1, b2, b3, r1, r2, r3, r4, r5, r6, r7, r8, r9, r10⟩ := R1
    obtain rfl : n2 = n' := by have := r1.1; omega
    have r45 : μ1 177 0 = σ 11 6 ∧ 0 ≤ σ 11 6 ∧ σ 11 6 < 2 ^ n2 := by first | exact r4 | exact r5
    have eb : i_and (i_shr (σ 11 6) (p : Int)) 1 = bit (σ 11 6) p := by
      rw [i_bit (by omega) (by omega) (by omega), Int.toNat_natCast]
    simp (decide := true) only [RR, ms_app, toList_some, toList_none, if_true, if_false, true_and, and_true, cond_true, sm0, sm1, sm1l, sm2, lc_lt, lc_gt, lc_eq, Int.toNat_natCast, Int.reduceToNat, Nat.reduceAdd, Nat.reduceEqDiff, Int.reduceLT, Int.reduceEq, Int.reduceNeg, Int.reduceAdd, Int.reduceMul, Nat.reduceMul, ms_n, ms_i, ms_l, ms_p, PM, c5, fxM hF1, r45.1, eb]
    rw [if_neg a4]
    refine At.blk rfl rfl rfl fun sx => ?_
    simp (decide := true) only [RR, ms_app, toList_some, toList_none, if_true, if_false, true_and, and_true, cond_true, sm0, sm1, sm1l, sm2, lc_lt, lc_gt, lc_eq, Int.toNat_natCast, Int.reduceToNat, Nat.reduceAdd, Nat.reduceEqDiff, Int.reduceLT, Int.reduceEq, Int.reduceNeg, Int.reduceAdd, Int.reduceMul, Nat.reduceMul, ms_n, ms_i, ms_l, ms_p, PM, c5, fxM hF1, r45.1]
    refine At.blk rfl rfl rfl fun sx => ?_
    simp (decide := true) only [RR, ms_app, toList_some, toList_none, if_true, if_false, true_and, and_true, cond_true, sm0, sm1, sm1l, sm2, lc_lt, lc_gt, lc_eq, Int.toNat_natCast, Int.reduceToNat, Nat.reduceAdd, Nat.reduceEqDiff, Int.reduceLT, Int.reduceEq, Int.reduceNeg, Int.reduceAdd, Int.reduceMul, Nat.reduceMul, ms_n, ms_i, ms_l, ms_p, PM]
    have ob := (cyo n7 hp r45.2.1 r45.2.2).1
    have f2 : cyK cmT μ (mj_set μ1 177 0 (i_or (σ 11 6) (i_shl 1 (p : Int)))) := (na_cm f1).trans (cyK.of (Fr.same.setr rfl))
    refine hG _ f2 (by rw [a6]; exact p1.cg rfl rfl) c5 (c6.trans h6) ?_
    have R2 : cyR (mj_set σ 11 6 (i_or (σ 11 6) (i_shl 1 (p : Int)))) (mj_set μ1 177 0 (i_or (σ 11 6) (i_shl 1 (p : Int)))) s2 := by
      first
        | exact ⟨n2, m2, c2, b1, b2, b3, r1, r2, r3, ⟨rfl, ob⟩, r5, r6, r7, r8, r9, fun r hr => (r10 r hr).cg rfl rfl rfl rfl rfl rfl⟩
        | exact ⟨n2, m2, c2, b1, b2, b3, r1, r2, r3, r4, ⟨rfl, ob⟩, r6, r7, r8, r9, fun r hr => (r10 r hr).cg rfl rfl rfl rfl rfl rfl⟩
    exact R2.cg a7 Fr.same (Nat.le_refl _)
  · obtain rfl : n' = n := by have := R.1.1; omega
    rcases a3 with a3 | ⟨e, p, a3, rfl, rfl, a4⟩
    · refine cal_of rfl (m_one_no hN a3 hF hT hb hP R.1.2 n7 (fun μ1 c5 c6 f1 => ?_))
      simp (decide := true) only [RR, ms_app, toList_some, toList_none, if_true, if_false, true_and, and_true, cond_true, sm0, sm1, sm1l, sm2, lc_lt, lc_gt, lc_eq, Int.toNat_natCast, Int.reduceToNat, Nat.reduceAdd, Nat.reduceEqDiff, Int.reduceLT, Int.reduceEq, Int.reduceNeg, Int.reduceAdd, Int.reduceMul, Nat.reduceMul, ms_n, ms_i, ms_l, ms_p, PM, c5]
      rw [if_neg hk]
      exact bad μ1 _ k x c5 c6 hk (na_cm f1) hH
    · have hp := a3.2.1
      refine cal_of rfl (m_one_ok hN a3 hF hT hb hP R.1.2 n7 (fun μ1 s2 k1 p1 c34 c5 c6 f1 => ?_))
      have hF1 := hF.fr f1 rfl
      have R1 : cyR σ μ1 s := hR.cg cyE.refl (f1.mono rfl) hs
      obtain ⟨n2, m2, c2, b1, b2, b3, r1, r2, r3, r4, r5, r6, r7, r8, r9, r10⟩ := R1
      obtain rfl : n2 = n' := by have := r1.1; omega
      have r45 : μ1 177 0 = σ 11 6 ∧ 0 ≤ σ 11 6 ∧ σ 11 6 < 2 ^ n2 := by first | exact r4 | exact r5
      have eb : i_and (i_shr (σ 11 6) (p : Int)) 1 = bit (σ 11 6) p := by
        rw [i_bit (by omega) (by omega) (by omega), Int.toNat_natCast]
      simp (decide := true) only [RR, ms_app, toList_some, toList_none, if_true, if_false, true_and, and_true, cond_true, sm0, sm1, sm1l, sm2, lc_lt, lc_gt, lc_eq, Int.toNat_natCast, Int.reduceToNat, Nat.reduceAdd, Nat.reduceEqDiff, Int.reduceLT, Int.reduceEq, Int.reduceNeg, Int.reduceAdd, Int.reduceMul, Nat.reduceMul, ms_n, ms_i, ms_l, ms_p, PM, c5, c34, fxM hF1, r45.1, eb]
      rw [if_pos a4]
      refine cal_of rfl (m_fail c5 ?_)
      simp (decide := true) only [RR, ms_app, toList_some, toList_none, if_true, if_false, true_and, and_true, cond_true, sm0, sm1, sm1l, sm2, lc_lt, lc_gt, lc_eq, Int.toNat_natCast, Int.reduceToNat, Nat.reduceAdd, Nat.reduceEqDiff, Int.reduceLT, Int.reduceEq, Int.reduceNeg, Int.reduceAdd, Int.reduceMul, Nat.reduceMul, ms_n, ms_i, ms_l, ms_p, PM]
      exact bad _ _ 3 s rfl rfl (by decide) ((na_cm f1).trans (cyK.of ((Fr.same.set rfl).set rfl))) hH
theorem m_deaf (hF : Fix μ) (hT : TxM μ N t) (hb : μ 146 5 = 0) (h6 : μ 146 6 = -1) (hP : PosM μ N t s g) (hR : cyR σ μ s0) (hs : s0 ≤ s)
    (H : (∃ s' g' τ, cyFl 7 N t s g σ s' g' τ ∧ s ≤ s' ∧ cyG N t μ s' g' τ K) ∨ (∃ k x, cyFn 7 N t s0 s g σ k x ∧ k ≠ 0 ∧ cyH μ k x K)) : Mt (d + 6) 172 [.inr (.inr 146), .inl 1] μ K := by
  obtain ⟨n, m, c, n7, m12, cs, R⟩ := id hR
  have hN : ∀ p, p < n → NameR (σ 12 p) (μ 174 p) := fun p hp => (R.2.2.2.2.2.2.2.1 p hp).1
  have p7 := pow_le n7
  refine Mt.go (lv := [some (.inr (.inr 146)), some (.inl 1), none]) rfl rfl rfl ?_
  have bad : ∀ (μ1 : mM) (i k x : Int), μ1 146 5 = k → μ1 146 6 = x → k ≠ 0 → cyK cmT μ μ1 → cyH μ k x K → At (d + 5) 172 1 [some (.inr (.inr 146)), some (.inl 1), some (.inl i)] [] μ1 K := by
    intro μ1 i k x e5 e6 hk f h
    refine At.blk rfl rfl rfl fun sx => ?_
    simp (decide := true) only [RR, ms_app, toList_some, toList_none, if_true, if_false, true_and, and_true, cond_true, sm0, sm1, sm1l, sm2, lc_lt, lc_gt, lc_eq, Int.toNat_natCast, Int.reduceToNat, Nat.reduceAdd, Nat.reduceEqDiff, Int.reduceLT, Int.reduceEq, Int.reduceNeg, Int.reduceAdd, Int.reduceMul, Nat.reduceMul, ms_n, ms_i, ms_l, ms_p, PM, e5]
    rw [if_neg hk]
    refine At.blk rfl rfl rfl fun sx => ?_
    simp (decide := true) only [RR, ms_app, toList_some, toList_none, if_true, if_false, true_and, and_true, cond_true, sm0, sm1, sm1l, sm2, lc_lt, lc_gt, lc_eq, Int.toNat_natCast, Int.reduceToNat, Nat.reduceAdd, Nat.reduceEqDiff, Int.reduceLT, Int.reduceEq, Int.reduceNeg, Int.reduceAdd, Int.reduceMul, Nat.reduceMul, ms_n, ms_i, ms_l, ms_p, PM]
    exact h μ1 f e5 e6
  refine At.blk rfl rfl rfl fun sx => ?_
  simp (decide := true) only [RR, ms_app, toList_some, toList_none, if_true, if_false, true_and, and_true, cond_true, sm0, sm1, sm1l, sm2, lc_lt, lc_gt, lc_eq, Int.toNat_natCast, Int.reduceToNat, Nat.reduceAdd, Nat.reduceEqDiff, Int.reduceLT, Int.reduceEq, Int.reduceNeg, Int.reduceAdd, Int.reduceMul, Nat.reduceMul, ms_n, ms_i, ms_l, ms_p, PM]
  rcases H with ⟨s', g', τ, ⟨n', e, p, a1, a2, a3, a4, a5, a6, a7⟩, hss, hG⟩ | ⟨k, x, ⟨n', a1, a2, a3⟩, hk, hH⟩
  · obtain rfl : n' = n := by have := R.1.1; omega
    have hp := a3.2.1
    refine cal_of rfl (m_one_ok hN a3 hF hT hb hP R.1.2 n7 (fun μ1 s2 k1 p1 c34 c5 c6 f1 => ?_))
    obtain rfl := k1.uniq a5
    have hF1 := hF.fr f1 rfl
    have R1 : cyR σ μ1 s2 := hR.cg cyE.refl (f1.mono rfl) (by omega)
    obtain ⟨n2, m2, c2, b1, b2, b3, r1, r2, r3, r4, r5, r6, r7, r8, r9, r10⟩ := R1
    obtain rfl : n2 = n' := by have := r1.1; omega
    have r45 : μ1 177 1 = σ 11 7 ∧ 0 ≤ σ 11 7 ∧ σ 11 7 < 2 ^ n2 := by first | exact r4 | exact r5
    have eb : i_and (i_shr (σ 11 7) (p : Int)) 1 = bit (σ 11 7) p := by
      rw [i_bit (by omega) (by omega) (by omega), Int.toNat_natCast]
    simp (decide := true) only [RR, ms_app, toList_some, toList_none, if_true, if_false, true_and, and_true, cond_true, sm0, sm1, sm1l, sm2, lc_lt, lc_gt, lc_eq, Int.toNat_natCast, Int.reduceToNat, Nat.reduceAdd, Nat.reduceEqDiff, Int.reduceLT, Int.reduceEq, Int.reduceNeg, Int.reduceAdd, Int.reduceMul, Nat.reduceMul, ms_n, ms_i, ms_l, ms_p, PM, c5, fxM hF1, r45.1, eb]
    rw [if_neg a4]
    refine At.blk rfl rfl rfl fun sx => ?_
    simp (decide := true) only [RR, ms_app, toList_some, toList_none, if_true, if_false, true_and, and_true, cond_true, sm0, sm1, sm1l, sm2, lc_lt, lc_gt, lc_eq, Int.toNat_natCast, Int.reduceToNat, Nat.reduceAdd, Nat.reduceEqDiff, Int.reduceLT, Int.reduceEq, Int.reduceNeg, Int.reduceAdd, Int.reduceMul, Nat.reduceMul, ms_n, ms_i, ms_l, ms_p, PM, c5, fxM hF1, r45.1]
    refine At.blk rfl rfl rfl fun sx => ?_
    simp (decide := true) only [RR, ms_app, toList_some, toList_none, if_true, if_false, true_and, and_true, cond_true, sm0, sm1, sm1l, sm2, lc_lt, lc_gt, lc_eq, Int.toNat_natCast, Int.reduceToNat, Nat.reduceAdd, Nat.reduceEqDiff, Int.reduceLT, Int.reduceEq, Int.reduceNeg, Int.reduceAdd, Int.reduceMul, Nat.reduceMul, ms_n, ms_i, ms_l, ms_p, PM]
    have ob := (cyo n7 hp r45.2.1 r45.2.2).1
    have f2 : cyK cmT μ (mj_set μ1 177 1 (i_or (σ 11 7) (i_shl 1 (p : Int)))) := (na_cm f1).trans (cyK.of (Fr.same.setr rfl))
    refine hG _ f2 (by rw [a6]; exact p1.cg rfl rfl) c5 (c6.trans h6) ?_
    have R2 : cyR (mj_set σ 11 7 (i_or (σ 11 7) (i_shl 1 (p : Int)))) (mj_set μ1 177 1 (i_or (σ 11 7) (i_shl 1 (p : Int)))) s2 := by
      first
        | exact ⟨n2, m2, c2, b1, b2, b3, r1, r2, r3, ⟨rfl, ob⟩, r5, r6, r7, r8, r9, fun r hr => (r10 r hr).cg rfl rfl rfl rfl rfl rfl⟩
        | exact ⟨n2, m2, c2, b1, b2, b3, r1, r2, r3, r4, ⟨rfl, ob⟩, r6, r7, r8, r9, fun r hr => (r10 r hr).cg rfl rfl rfl rfl rfl rfl⟩
    exact R2.cg a7 Fr.same (Nat.le_refl _)
  · obtain rfl : n' = n := by have := R.1.1; omega
    rcases a3 with a3 | ⟨e, p, a3, rfl, rfl, a4⟩
    · refine cal_of rfl (m_one_no hN a3 hF hT hb hP R.1.2 n7 (fun μ1 c5 c6 f1 => ?_))
      simp (decide := true) only [RR, ms_app, toList_some, toList_none, if_true, if_false, true_and, and_true, cond_true, sm0, sm1, sm1l, sm2, lc_lt, lc_gt, lc_eq, Int.toNat_natCast, Int.reduceToNat, Nat.reduceAdd, Nat.reduceEqDiff, Int.reduceLT, Int.reduceEq, Int.reduceNeg, Int.reduceAdd, Int.reduceMul, Nat.reduceMul, ms_n, ms_i, ms_l, ms_p, PM, c5]
      rw [if_neg hk]
      exact bad μ1 _ k x c5 c6 hk (na_cm f1) hH
    · have hp := a3.2.1
      refine cal_of rfl (m_one_ok hN a3 hF hT hb hP R.1.2 n7 (fun μ1 s2 k1 p1 c34 c5 c6 f1 => ?_))
      have hF1 := hF.fr f1 rfl
      have R1 : cyR σ μ1 s := hR.cg cyE.refl (f1.mono rfl) hs
      obtain ⟨n2, m2, c2, b1, b2, b3, r1, r2, r3, r4, r5, r6, r7, r8, r9, r10⟩ := R1
      obtain rfl : n2 = n' := by have := r1.1; omega
      have r45 : μ1 177 1 = σ 11 7 ∧ 0 ≤ σ 11 7 ∧ σ 11 7 < 2 ^ n2 := by first | exact r4 | exact r5
      have eb : i_and (i_shr (σ 11 7) (p : Int)) 1 = bit (σ 11 7) p := by
        rw [i_bit (by omega) (by omega) (by omega), Int.toNat_natCast]
      simp (decide := true) only [RR, ms_app, toList_some, toList_none, if_true, if_false, true_and, and_true, cond_true, sm0, sm1, sm1l, sm2, lc_lt, lc_gt, lc_eq, Int.toNat_natCast, Int.reduceToNat, Nat.reduceAdd, Nat.reduceEqDiff, Int.reduceLT, Int.reduceEq, Int.reduceNeg, Int.reduceAdd, Int.reduceMul, Nat.reduceMul, ms_n, ms_i, ms_l, ms_p, PM, c5, c34, fxM hF1, r45.1, eb]
      rw [if_pos a4]
      refine cal_of rfl (m_fail c5 ?_)
      simp (decide := true) only [RR, ms_app, toList_some, toList_none, if_true, if_false, true_and, and_true, cond_true, sm0, sm1, sm1l, sm2, lc_lt, lc_gt, lc_eq, Int.toNat_natCast, Int.reduceToNat, Nat.reduceAdd, Nat.reduceEqDiff, Int.reduceLT, Int.reduceEq, Int.reduceNeg, Int.reduceAdd, Int.reduceMul, Nat.reduceMul, ms_n, ms_i, ms_l, ms_p, PM]
      exact bad _ _ 3 s rfl rfl (by decide) ((na_cm f1).trans (cyK.of ((Fr.same.set rfl).set rfl))) hH
theorem m_partT (hF : Fix μ) (hT : TxM μ N t) (hb : μ 146 5 = 0) (h6 : μ 146 6 = -1) (hP : PosM μ N t s g) (hR : cyR σ μ s0) (hs : s0 ≤ s)
    (H : (∃ s' g' τ, cyPa N t s g σ s' g' τ ∧ s ≤ s' ∧ cyG N t μ s' g' τ K) ∨ (∃ k x, cyPn N t s0 s g σ k x ∧ k ≠ 0 ∧ cyH μ k x K)) : Mt (d + 6) 170 [.inr (.inr 146), .inl (s0 : Int)] μ K := by
  obtain ⟨n, m, c, n7, m12, cs, R⟩ := id hR
  have hN : ∀ p, p < n → NameR (σ 12 p) (μ 174 p) := fun p hp => (R.2.2.2.2.2.2.2.1 p hp).1
  refine Mt.go (lv := [some (.inr (.inr 146)), some (.inl (s0 : Int)), none, none, none]) rfl rfl rfl ?_
  -- a fault is there at b3
  have bad : ∀ (μ1 : mM) (o : Option mV) (k x : Int), μ1 146 5 = k → μ1 146 6 = x → k ≠ 0 → Fix μ1 → cyK cmT μ μ1 → cyH μ k x K → At (d + 5) 170 3 [some (.inr (.inr 146)), some (.inl (s0 : Int)), o, none, none] [] μ1 K := by
    intro μ1 o k x e5 e6 hk hF1 f h
    refine At.blk rfl rfl rfl fun sx => ?_
    simp (decide := true) only [RR, ms_app, toList_some, toList_none, if_true, if_false, true_and, and_true, cond_true, sm0, sm1, sm1l, sm2, lc_lt, lc_gt, lc_eq, Int.toNat_natCast, Int.reduceToNat, Nat.reduceAdd, Nat.reduceEqDiff, Int.reduceLT, Int.reduceEq, Int.reduceNeg, Int.reduceAdd, Int.reduceMul, Nat.reduceMul, ms_n, ms_i, ms_l, ms_p, PM, fxM hF1]
    refine cal_of rfl (m_asks_bad (by rw [e5]; exact hk) ?_)
    simp (decide := true) only [RR, ms_app, toList_some, toList_none, if_true, if_false, true_and, and_true, cond_true, sm0, sm1, sm1l, sm2, lc_lt, lc_gt, lc_eq, Int.toNat_natCast, Int.reduceToNat, Nat.reduceAdd, Nat.reduceEqDiff, Int.reduceLT, Int.reduceEq, Int.reduceNeg, Int.reduceAdd, Int.reduceMul, Nat.reduceMul, ms_n, ms_i, ms_l, ms_p, PM]
    refine cal_of rfl (m_number_bad (by rw [e5]; exact hk) ?_)
    simp (decide := true) only [RR, ms_app, toList_some, toList_none, if_true, if_false, true_and, and_true, cond_true, sm0, sm1, sm1l, sm2, lc_lt, lc_gt, lc_eq, Int.toNat_natCast, Int.reduceToNat, Nat.reduceAdd, Nat.reduceEqDiff, Int.reduceLT, Int.reduceEq, Int.reduceNeg, Int.reduceAdd, Int.reduceMul, Nat.reduceMul, ms_n, ms_i, ms_l, ms_p, PM, e5]
    rw [if_neg hk]
    exact h μ1 f e5 e6
  -- a name is there, a new one
  have named : ∀ e, IsNa N t s g e → (∀ p, p < n → σ 12 p ≠ enc5 (nmL t s (e - s))) → (∀ μ1 s2, Skp N t e s2 → PosM μ1 N t s2 (decide (s2 = e)) → μ1 146 5 = 0 → μ1 146 6 = -1 → Fr [] naT μ μ1 → At (d + 5) 170 3 [some (.inr (.inr 146)), some (.inl (s0 : Int)), some (.inr (.inl (enc27 (nmL t s (e - s)) 0))), none, none] [] μ1 K) → At (d + 5) 170 2 [some (.inr (.inr 146)), some (.inl (s0 : Int)), none, none, none] [] μ K := by
    intro e hi hq hK
    refine At.blk rfl rfl rfl fun sx => ?_
    simp (decide := true) only [RR, ms_app, toList_some, toList_none, if_true, if_false, true_and, and_true, cond_true, sm0, sm1, sm1l, sm2, lc_lt, lc_gt, lc_eq, Int.toNat_natCast, Int.reduceToNat, Nat.reduceAdd, Nat.reduceEqDiff, Int.reduceLT, Int.reduceEq, Int.reduceNeg, Int.reduceAdd, Int.reduceMul, Nat.reduceMul, ms_n, ms_i, ms_l, ms_p, PM]
    refine cal_of rfl (m_name hF hT hb hP (fun μ1 e' s2 hi' k1 p1 c34 c5 c6 f1 => ?_) (fun μ1 x hf c5 c6 f1 => (hi.noF hf).elim))
    obtain rfl := hi'.uniq hi
    have hF1 := hF.fr f1 rfl
    have en : μ1 173 0 = (n : Int) := (f1 173 0 rfl).trans R.1.2
    simp (decide := true) only [RR, ms_app, toList_some, toList_none, if_true, if_false, true_and, and_true, cond_true, sm0, sm1, sm1l, sm2, lc_lt, lc_gt, lc_eq, Int.toNat_natCast, Int.reduceToNat, Nat.reduceAdd, Nat.reduceEqDiff, Int.reduceLT, Int.reduceEq, Int.reduceNeg, Int.reduceAdd, Int.reduceMul, Nat.reduceMul, ms_n, ms_i, ms_l, ms_p, PM, c5]
    refine cal_of rfl (m_nameOf hF1 en n7 (fun p hp he hq2 => ?_) (fun hq2 => ?_))
    · rw [f1 174 p rfl] at he
      exact absurd ((name_iff (hN p hp) hi).mpr he) (hq p hp)
    · simp (decide := true) only [RR, ms_app, toList_some, toList_none, if_true, if_false, true_and, and_true, cond_true, sm0, sm1, sm1l, sm2, lc_lt, lc_gt, lc_eq, Int.toNat_natCast, Int.reduceToNat, Nat.reduceAdd, Nat.reduceEqDiff, Int.reduceLT, Int.reduceEq, Int.reduceNeg, Int.reduceAdd, Int.reduceMul, Nat.reduceMul, ms_n, ms_i, ms_l, ms_p, PM]
      exact hK μ1 s2 k1 p1 c5 (c6.trans h6) f1
  refine At.blk rfl rfl rfl fun sx => ?_
  simp (decide := true) only [RR, ms_app, toList_some, toList_none, if_true, if_false, true_and, and_true, cond_true, sm0, sm1, sm1l, sm2, lc_lt, lc_gt, lc_eq, Int.toNat_natCast, Int.reduceToNat, Nat.reduceAdd, Nat.reduceEqDiff, Int.reduceLT, Int.reduceEq, Int.reduceNeg, Int.reduceAdd, Int.reduceMul, Nat.reduceMul, ms_n, ms_i, ms_l, ms_p, PM, fxM hF, hb, R.1.2]
  rcases H with ⟨s', g', τ, ⟨n', e, s2, e2, s3, e3, a1, a2, a3, a4, a5, a6, a7, a8, a9, b1, b2, b3, b4⟩, hss, hG⟩ | ⟨k, x, ⟨n', a1, a2, a3⟩, hk, hH⟩
  · obtain rfl : n' = n := by have := R.1.1; omega
    rw [if_neg (by omega)]
    refine At.blk rfl rfl rfl fun sx => ?_
    simp (decide := true) only [RR, ms_app, toList_some, toList_none, if_true, if_false, true_and, and_true, cond_true, sm0, sm1, sm1l, sm2, lc_lt, lc_gt, lc_eq, Int.toNat_natCast, Int.reduceToNat, Nat.reduceAdd, Nat.reduceEqDiff, Int.reduceLT, Int.reduceEq, Int.reduceNeg, Int.reduceAdd, Int.reduceMul, Nat.reduceMul, ms_n, ms_i, ms_l, ms_p, PM, hb]
    refine named e a3 a4 (fun μ1 s2' k1 p1 c5 c6 f1 => ?_)
    obtain rfl := k1.uniq a5
    have hF1 := hF.fr f1 rfl
    have hT1 : TxM μ1 N t := hT.cg (f1 146 3 rfl) (f1.row 147 rfl)
    have hil := a3.let
    have hlt := a3.lt
    have hl6 := a3.2.2.2.2.2
    refine At.blk rfl rfl rfl fun sx => ?_
    simp (decide := true) only [RR, ms_app, toList_some, toList_none, if_true, if_false, true_and, and_true, cond_true, sm0, sm1, sm1l, sm2, lc_lt, lc_gt, lc_eq, Int.toNat_natCast, Int.reduceToNat, Nat.reduceAdd, Nat.reduceEqDiff, Int.reduceLT, Int.reduceEq, Int.reduceNeg, Int.reduceAdd, Int.reduceMul, Nat.reduceMul, ms_n, ms_i, ms_l, ms_p, PM, fxM hF1]
    refine cal_of rfl (m_asks (w := 1) (by decide) (wr_own 1 (by decide)) hF1 hT1 c5 p1 (fun μ2 e2' s3' f2 hi2 k2 p2 => ?_) (fun μ2 f2 hn _ _ => absurd a6 (hn e2)))
    obtain ⟨rfl, -⟩ := hi2.uniq a6 (by decide) (by decide)
    obtain rfl := k2.uniq a7
    have hF2 := hF1.fr f2 rfl
    have hT2 : TxM μ2 N t := hT1.cg (f2 146 3 rfl) (f2.row 147 rfl)
    simp (decide := true) only [RR, ms_app, toList_some, toList_none, if_true, if_false, true_and, and_true, cond_true, sm0, sm1, sm1l, sm2, lc_lt, lc_gt, lc_eq, Int.toNat_natCast, Int.reduceToNat, Nat.reduceAdd, Nat.reduceEqDiff, Int.reduceLT, Int.reduceEq, Int.reduceNeg, Int.reduceAdd, Int.reduceMul, Nat.reduceMul, ms_n, ms_i, ms_l, ms_p, PM]
    refine cal_of rfl (m_number (a := 0) (b := 20) hF2 hT2 ((f2 146 5 rfl).trans c5) p2 (fun μ3 e3' s4 f3 hm h4 hv k3 p3 => ?_) (fun μ3 k x v f3 hf _ _ _ => ?_))
    · obtain rfl : e3' = e3 := hm.2.2.2.uniq a8.2.2.2
      obtain rfl := k3.uniq b2
      have f03 : Fr [] naT μ μ3 := (f1.trans (f2.mono rfl)).trans (f3.mono rfl)
      have hF3 := hF.fr f03 rfl
      have d5 : μ3 146 5 = 0 := by rw [f3 146 5 rfl, f2 146 5 rfl]; exact c5
      have d6 : μ3 146 6 = -1 := by rw [f3 146 6 rfl, f2 146 6 rfl]; exact c6
      have R1 : cyR σ μ3 s4 := hR.cg cyE.refl (f03.mono rfl) (by omega)
      obtain ⟨n2, m2, c2, r01, r02, r03, r1, r2, r3, r4, r5, r6, r7, r8, r9, r10⟩ := R1
      obtain rfl : n2 = n' := by have := r1.1; omega
      have w1 : Unit → w32 ((n2 : Int) + 1) = ((n2 + 1 : Nat) : Int) := fun _ => by rw [w32_small (by omega) (by omega)]; omega
      simp (decide := true) only [RR, ms_app, toList_some, toList_none, if_true, if_false, true_and, and_true, cond_true, sm0, sm1, sm1l, sm2, lc_lt, lc_gt, lc_eq, Int.toNat_natCast, Int.reduceToNat, Nat.reduceAdd, Nat.reduceEqDiff, Int.reduceLT, Int.reduceEq, Int.reduceNeg, Int.reduceAdd, Int.reduceMul, Nat.reduceMul, ms_n, ms_i, ms_l, ms_p, PM, d5]
      refine At.blk rfl rfl rfl fun sx => ?_
      simp (decide := true) only [RR, ms_app, toList_some, toList_none, if_true, if_false, true_and, and_true, cond_true, sm0, sm1, sm1l, sm2, lc_lt, lc_gt, lc_eq, Int.toNat_natCast, Int.reduceToNat, Nat.reduceAdd, Nat.reduceEqDiff, Int.reduceLT, Int.reduceEq, Int.reduceNeg, Int.reduceAdd, Int.reduceMul, Nat.reduceMul, ms_n, ms_i, ms_l, ms_p, PM, fxM hF3, r1.2, w1 ()]
      refine ⟨⟨by omega, by omega⟩, ⟨by omega, by omega⟩, ?_⟩
      refine hG _ (((na_cm f03).set (Or.inr (Or.inl ⟨rfl, by omega⟩))).trans ((cyK.of (Fr.same.setr rfl)).set (Or.inl ⟨rfl, by decide⟩))) (by rw [b3]; exact p3.cg rfl rfl) d5 d6 ?_
      have R2 : cyR (mj_set (mj_set (mj_set σ 12 n2 (enc5 (nmL t s (e - s)))) 13 n2 (numV t s3' (e3' - s3'))) 11 4 ((n2 + 1 : Nat) : Int)) (mj_set (mj_set (mj_set μ3 174 n2 (enc27 (nmL t s (e - s)) 0)) 175 n2 (numV t s3' (e3' - s3'))) 173 0 ((n2 + 1 : Nat) : Int)) s4 := by
        refine ⟨n2 + 1, m2, c2, by omega, r02, r03, ⟨rfl, rfl⟩, r2, r3, ⟨r4.1, r4.2.1, pow_s r4.2.1 r4.2.2⟩, ⟨r5.1, r5.2.1, pow_s r5.2.1 r5.2.2⟩, r6, r7, fun p hp => ?_, fun p hp => ⟨(r9 p hp).1, (r9 p hp).2.1, pow_s (r9 p hp).2.1 (r9 p hp).2.2⟩, fun r hr => (r10 r hr).cg rfl rfl rfl rfl rfl rfl⟩
        have x1 : mj_set (mj_set (mj_set σ 12 n2 (enc5 (nmL t s (e - s)))) 13 n2 (numV t s3' (e3' - s3'))) 11 4 ((n2 + 1 : Nat) : Int) 12 p = if p = n2 then enc5 (nmL t s (e - s)) else σ 12 p := by
          rw [ms_row (by decide), ms_row (by decide), ms_app, if_pos rfl]
        have x2 : mj_set (mj_set (mj_set σ 12 n2 (enc5 (nmL t s (e - s)))) 13 n2 (numV t s3' (e3' - s3'))) 11 4 ((n2 + 1 : Nat) : Int) 13 p = if p = n2 then numV t s3' (e3' - s3') else σ 13 p := by
          rw [ms_row (by decide), ms_app, if_pos rfl, ms_row (by decide)]
        have x3 : mj_set (mj_set (mj_set μ3 174 n2 (enc27 (nmL t s (e - s)) 0)) 175 n2 (numV t s3' (e3' - s3'))) 173 0 ((n2 + 1 : Nat) : Int) 174 p = if p = n2 then enc27 (nmL t s (e - s)) 0 else μ3 174 p := by
          rw [ms_row (by decide), ms_row (by decide), ms_app, if_pos rfl]
        have x4 : mj_set (mj_set (mj_set μ3 174 n2 (enc27 (nmL t s (e - s)) 0)) 175 n2 (numV t s3' (e3' - s3'))) 173 0 ((n2 + 1 : Nat) : Int) 175 p = if p = n2 then numV t s3' (e3' - s3') else μ3 175 p := by
          rw [ms_row (by decide), ms_app, if_pos rfl, ms_row (by decide)]
        rw [x1, x2, x3, x4]
        by_cases ep : p = n2
        · rw [if_pos ep, if_pos ep, if_pos ep, if_pos ep]
          exact ⟨⟨nmL t s (e - s), by rw [nmL_len]; omega, by rw [nmL_len]; omega, hil, rfl, rfl⟩, rfl, b1⟩
        · rw [if_neg ep, if_neg ep, if_neg ep, if_neg ep]
          exact r8 p (by omega)
      exact R2.cg b4 Fr.same (Nat.le_refl _)
    · exfalso
      rcases hf with ⟨-, -, h⟩ | ⟨e4, h, ⟨h1, -⟩ | ⟨-, h1, -⟩⟩
      · exact h e3 a8
      · obtain rfl : e4 = e3 := h.2.2.2.uniq a8.2.2.2
        omega
      · obtain rfl : e4 = e3 := h.2.2.2.uniq a8.2.2.2
        exact h1 b1
  · obtain rfl : n' = n := by have := R.1.1; omega
    rcases a3 with ⟨a3, rfl, rfl⟩ | ⟨a3, hh⟩
    · rw [if_pos (by omega)]
      refine cal_of rfl (m_fail hb ?_)
      simp (decide := true) only [RR, ms_app, toList_some, toList_none, if_true, if_false, true_and, and_true, cond_true, sm0, sm1, sm1l, sm2, lc_lt, lc_gt, lc_eq, Int.toNat_natCast, Int.reduceToNat, Nat.reduceAdd, Nat.reduceEqDiff, Int.reduceLT, Int.reduceEq, Int.reduceNeg, Int.reduceAdd, Int.reduceMul, Nat.reduceMul, ms_n, ms_i, ms_l, ms_p, PM]
      refine At.blk rfl rfl rfl fun sx => ?_
      simp (decide := true) only [RR, ms_app, toList_some, toList_none, if_true, if_false, true_and, and_true, cond_true, sm0, sm1, sm1l, sm2, lc_lt, lc_gt, lc_eq, Int.toNat_natCast, Int.reduceToNat, Nat.reduceAdd, Nat.reduceEqDiff, Int.reduceLT, Int.reduceEq, Int.reduceNeg, Int.reduceAdd, Int.reduceMul, Nat.reduceMul, ms_n, ms_i, ms_l, ms_p, PM]
      exact hH _ (cyK.of ((Fr.same.set rfl).set rfl)) rfl rfl
    · rw [if_neg (by omega)]
      refine At.blk rfl rfl rfl fun sx => ?_
      simp (decide := true) only [RR, ms_app, toList_some, toList_none, if_true, if_false, true_and, and_true, cond_true, sm0, sm1, sm1l, sm2, lc_lt, lc_gt, lc_eq, Int.toNat_natCast, Int.reduceToNat, Nat.reduceAdd, Nat.reduceEqDiff, Int.reduceLT, Int.reduceEq, Int.reduceNeg, Int.reduceAdd, Int.reduceMul, Nat.reduceMul, ms_n, ms_i, ms_l, ms_p, PM, hb]
      rcases hh with hh | ⟨e, hi, hh⟩
      · refine At.blk rfl rfl rfl fun sx => ?_
        simp (decide := true) only [RR, ms_app, toList_some, toList_none, if_true, if_false, true_and, and_true, cond_true, sm0, sm1, sm1l, sm2, lc_lt, lc_gt, lc_eq, Int.toNat_natCast, Int.reduceToNat, Nat.reduceAdd, Nat.reduceEqDiff, Int.reduceLT, Int.reduceEq, Int.reduceNeg, Int.reduceAdd, Int.reduceMul, Nat.reduceMul, ms_n, ms_i, ms_l, ms_p, PM]
        refine cal_of rfl (m_name hF hT hb hP (fun μ1 e' s2 hi' k1 p1 c34 c5 c6 f1 => (hi'.noF hh).elim) (fun μ1 x' hf c5 c6 f1 => ?_))
        obtain ⟨rfl, rfl⟩ := hf.uniq hh
        simp (decide := true) only [RR, ms_app, toList_some, toList_none, if_true, if_false, true_and, and_true, cond_true, sm0, sm1, sm1l, sm2, lc_lt, lc_gt, lc_eq, Int.toNat_natCast, Int.reduceToNat, Nat.reduceAdd, Nat.reduceEqDiff, Int.reduceLT, Int.reduceEq, Int.reduceNeg, Int.reduceAdd, Int.reduceMul, Nat.reduceMul, ms_n, ms_i, ms_l, ms_p, PM, c5]
        exact bad μ1 _ 1 x' c5 c6 (by decide) (hF.fr f1 rfl) (na_cm f1) hH
      · rcases hh with ⟨rfl, rfl, p, hp, hpe⟩ | ⟨hq, s2, k2, hh⟩
        · refine At.blk rfl rfl rfl fun sx => ?_
          simp (decide := true) only [RR, ms_app, toList_some, toList_none, if_true, if_false, true_and, and_true, cond_true, sm0, sm1, sm1l, sm2, lc_lt, lc_gt, lc_eq, Int.toNat_natCast, Int.reduceToNat, Nat.reduceAdd, Nat.reduceEqDiff, Int.reduceLT, Int.reduceEq, Int.reduceNeg, Int.reduceAdd, Int.reduceMul, Nat.reduceMul, ms_n, ms_i, ms_l, ms_p, PM]
          refine cal_of rfl (m_name hF hT hb hP (fun μ1 e' s2 hi' k1 p1 c34 c5 c6 f1 => ?_) (fun μ1 x hf c5 c6 f1 => (hi.noF hf).elim))
          obtain rfl := hi'.uniq hi
          have hF1 := hF.fr f1 rfl
          have en : μ1 173 0 = (n' : Int) := (f1 173 0 rfl).trans R.1.2
          simp (decide := true) only [RR, ms_app, toList_some, toList_none, if_true, if_false, true_and, and_true, cond_true, sm0, sm1, sm1l, sm2, lc_lt, lc_gt, lc_eq, Int.toNat_natCast, Int.reduceToNat, Nat.reduceAdd, Nat.reduceEqDiff, Int.reduceLT, Int.reduceEq, Int.reduceNeg, Int.reduceAdd, Int.reduceMul, Nat.reduceMul, ms_n, ms_i, ms_l, ms_p, PM, c5]
          refine cal_of rfl (m_nameOf hF1 en n7 (fun p2 hp2 he hq2 => ?_) (fun hq2 => ?_))
          · simp (decide := true) only [RR, ms_app, toList_some, toList_none, if_true, if_false, true_and, and_true, cond_true, sm0, sm1, sm1l, sm2, lc_lt, lc_gt, lc_eq, Int.toNat_natCast, Int.reduceToNat, Nat.reduceAdd, Nat.reduceEqDiff, Int.reduceLT, Int.reduceEq, Int.reduceNeg, Int.reduceAdd, Int.reduceMul, Nat.reduceMul, ms_n, ms_i, ms_l, ms_p, PM, c34]
            rw [if_neg (by omega)]
            refine cal_of rfl (m_fail c5 ?_)
            simp (decide := true) only [RR, ms_app, toList_some, toList_none, if_true, if_false, true_and, and_true, cond_true, sm0, sm1, sm1l, sm2, lc_lt, lc_gt, lc_eq, Int.toNat_natCast, Int.reduceToNat, Nat.reduceAdd, Nat.reduceEqDiff, Int.reduceLT, Int.reduceEq, Int.reduceNeg, Int.reduceAdd, Int.reduceMul, Nat.reduceMul, ms_n, ms_i, ms_l, ms_p, PM]
            exact bad _ _ 3 s rfl rfl (by decide) (hF1.fr ((Fr.same (L := []) (T := naT)).set rfl |>.set rfl) rfl) ((na_cm f1).trans (cyK.of ((Fr.same.set rfl).set rfl))) hH
          · exfalso
            refine hq2 p hp ?_
            rw [f1 174 p rfl]
            exact (name_iff (hN p hp) hi).mp hpe
        · refine named e hi hq (fun μ1 s2' k1 p1 c5 c6 f1 => ?_)
          obtain rfl := k1.uniq k2
          have hF1 := hF.fr f1 rfl
          have hT1 : TxM μ1 N t := hT.cg (f1 146 3 rfl) (f1.row 147 rfl)
          refine At.blk rfl rfl rfl fun sx => ?_
          simp (decide := true) only [RR, ms_app, toList_some, toList_none, if_true, if_false, true_and, and_true, cond_true, sm0, sm1, sm1l, sm2, lc_lt, lc_gt, lc_eq, Int.toNat_natCast, Int.reduceToNat, Nat.reduceAdd, Nat.reduceEqDiff, Int.reduceLT, Int.reduceEq, Int.reduceNeg, Int.reduceAdd, Int.reduceMul, Nat.reduceMul, ms_n, ms_i, ms_l, ms_p, PM, fxM hF1]
          rcases hh with ⟨rfl, rfl, hw⟩ | ⟨e2, s3, hw, k3, hh⟩
          · refine cal_of rfl (m_asks (w := 1) (by decide) (wr_own 1 (by decide)) hF1 hT1 c5 p1 (fun μ2 e2' s3' f2 hi2 k2 p2 => absurd hi2 (hw e2')) (fun μ2 f2 hn d5 d6 => ?_))
            simp (decide := true) only [RR, ms_app, toList_some, toList_none, if_true, if_false, true_and, and_true, cond_true, sm0, sm1, sm1l, sm2, lc_lt, lc_gt, lc_eq, Int.toNat_natCast, Int.reduceToNat, Nat.reduceAdd, Nat.reduceEqDiff, Int.reduceLT, Int.reduceEq, Int.reduceNeg, Int.reduceAdd, Int.reduceMul, Nat.reduceMul, ms_n, ms_i, ms_l, ms_p, PM]
            refine cal_of rfl (m_number_bad (by rw [d5]; decide) ?_)
            simp (decide := true) only [RR, ms_app, toList_some, toList_none, if_true, if_false, true_and, and_true, cond_true, sm0, sm1, sm1l, sm2, lc_lt, lc_gt, lc_eq, Int.toNat_natCast, Int.reduceToNat, Nat.reduceAdd, Nat.reduceEqDiff, Int.reduceLT, Int.reduceEq, Int.reduceNeg, Int.reduceAdd, Int.reduceMul, Nat.reduceMul, ms_n, ms_i, ms_l, ms_p, PM, d5]
            exact hH μ2 ((na_cm f1).trans (ms_cm f2)) d5 d6
          · refine cal_of rfl (m_asks (w := 1) (by decide) (wr_own 1 (by decide)) hF1 hT1 c5 p1 (fun μ2 e2' s3' f2 hi2 k2 p2 => ?_) (fun μ2 f2 hn _ _ => absurd hw (hn e2)))
            obtain ⟨rfl, -⟩ := hi2.uniq hw (by decide) (by decide)
            obtain rfl := k2.uniq k3
            have hF2 := hF1.fr f2 rfl
            have hT2 : TxM μ2 N t := hT1.cg (f2 146 3 rfl) (f2.row 147 rfl)
            simp (decide := true) only [RR, ms_app, toList_some, toList_none, if_true, if_false, true_and, and_true, cond_true, sm0, sm1, sm1l, sm2, lc_lt, lc_gt, lc_eq, Int.toNat_natCast, Int.reduceToNat, Nat.reduceAdd, Nat.reduceEqDiff, Int.reduceLT, Int.reduceEq, Int.reduceNeg, Int.reduceAdd, Int.reduceMul, Nat.reduceMul, ms_n, ms_i, ms_l, ms_p, PM]
            refine cal_of rfl (m_number (a := 0) (b := 20) hF2 hT2 ((f2 146 5 rfl).trans c5) p2 (fun μ3 e3' s4 f3 hm h4 hv k3 p3 => ?_) (fun μ3 k' x' v f3 hf d5 d6 _ => ?_))
            · exfalso
              rcases hh with ⟨-, -, h⟩ | ⟨e4, h, ⟨h1, -⟩ | ⟨-, h1, -⟩⟩
              · exact h e3' hm
              · obtain rfl : e4 = e3' := h.2.2.2.uniq hm.2.2.2
                omega
              · obtain rfl : e4 = e3' := h.2.2.2.uniq hm.2.2.2
                exact h1 hv
            · obtain ⟨rfl, rfl⟩ := hf.uniq hh
              simp (decide := true) only [RR, ms_app, toList_some, toList_none, if_true, if_false, true_and, and_true, cond_true, sm0, sm1, sm1l, sm2, lc_lt, lc_gt, lc_eq, Int.toNat_natCast, Int.reduceToNat, Nat.reduceAdd, Nat.reduceEqDiff, Int.reduceLT, Int.reduceEq, Int.reduceNeg, Int.reduceAdd, Int.reduceMul, Nat.reduceMul, ms_n, ms_i, ms_l, ms_p, PM, d5]
              rw [if_neg hk]
              exact hH μ3 (((na_cm f1).trans (tm_cm f2)).trans (ms_cm f3)) d5 d6
end
