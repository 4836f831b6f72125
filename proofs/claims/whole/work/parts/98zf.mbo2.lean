section
variable {d : Nat} {σ μ : mM} {K : Option mV → mM → Prop} {N : Nat} {t : Nat → Int} {s0 s : Nat} {g : Bool}
theorem m_nearT (hF : Fix μ) (hT : TxM μ N t) (hb : μ 146 5 = 0) (h6 : μ 146 6 = -1) (hP : PosM μ N t s g) (hR : cyR σ μ s0) (hs : s0 ≤ s)
    (H : (∃ s' g' τ, cyNr N t s g σ s' g' τ ∧ s ≤ s' ∧ cyG N t μ s' g' τ K) ∨ (∃ k x, cyNn N t s0 s g σ k x ∧ k ≠ 0 ∧ cyH μ k x K)) : Mt (d + 6) 171 [.inr (.inr 146), .inl (s0 : Int)] μ K := by
  obtain ⟨n, m, c, n7, m12, cs, R⟩ := id hR
  have hN : ∀ p, p < n → NameR (σ 12 p) (μ 174 p) := fun p hp => (R.2.2.2.2.2.2.2.1 p hp).1
  have p7 := pow_le n7
  refine Mt.go (lv := [some (.inr (.inr 146)), some (.inl (s0 : Int)), none, none]) rfl rfl rfl ?_
  have bad : ∀ (μ1 : mM) (i j k x : Int), μ1 146 5 = k → μ1 146 6 = x → k ≠ 0 → cyK cmT μ μ1 → cyH μ k x K → At (d + 5) 171 4 [some (.inr (.inr 146)), some (.inl (s0 : Int)), some (.inl i), some (.inl j)] [] μ1 K := by
    intro μ1 i j k x e5 e6 hk f h
    refine At.blk rfl rfl rfl fun sx => ?_
    simp (decide := true) only [RR, ms_app, toList_some, toList_none, if_true, if_false, true_and, and_true, cond_true, sm0, sm1, sm1l, sm2, lc_lt, lc_gt, lc_eq, Int.toNat_natCast, Int.reduceToNat, Nat.reduceAdd, Nat.reduceEqDiff, Int.reduceLT, Int.reduceEq, Int.reduceNeg, Int.reduceAdd, Int.reduceMul, Nat.reduceMul, ms_n, ms_i, ms_l, ms_p, PM, e5]
    rw [if_neg hk]
    exact h μ1 f e5 e6
  -- both parts are named
  have both : ∀ e a s2 e2 b, cyNm N t σ s g n e a → Skp N t e s2 → cyNm N t σ s2 (decide (s2 = e)) n e2 b →
      (b ≠ a → bit (σ 14 a) b ≠ 1 → ∀ μ2 s3, Skp N t e2 s3 → PosM μ2 N t s3 (decide (s3 = e2)) → μ2 146 5 = 0 → μ2 146 6 = -1 → Fr [] naT μ μ2 → At (d + 5) 171 4 [some (.inr (.inr 146)), some (.inl (s0 : Int)), some (.inl (a : Int)), some (.inl (b : Int))] [] μ2 K) →
      ((b = a ∨ bit (σ 14 a) b = 1) → cyH μ 3 (s2 : Int) K) → At (d + 5) 171 2 [some (.inr (.inr 146)), some (.inl (s0 : Int)), none, none] [] μ K := by
    intro e a s2 e2 b ha k1 hb2 hgo hbad
    have han := ha.2.1
    have hbn := hb2.2.1
    refine At.blk rfl rfl rfl fun sx => ?_
    simp (decide := true) only [RR, ms_app, toList_some, toList_none, if_true, if_false, true_and, and_true, cond_true, sm0, sm1, sm1l, sm2, lc_lt, lc_gt, lc_eq, Int.toNat_natCast, Int.reduceToNat, Nat.reduceAdd, Nat.reduceEqDiff, Int.reduceLT, Int.reduceEq, Int.reduceNeg, Int.reduceAdd, Int.reduceMul, Nat.reduceMul, ms_n, ms_i, ms_l, ms_p, PM]
    refine cal_of rfl (m_one_ok hN ha hF hT hb hP R.1.2 n7 (fun μ1 s2' k1' p1 c34 c5 c6 f1 => ?_))
    obtain rfl := k1'.uniq k1
    have hF1 := hF.fr f1 rfl
    have hT1 : TxM μ1 N t := hT.cg (f1 146 3 rfl) (f1.row 147 rfl)
    simp (decide := true) only [RR, ms_app, toList_some, toList_none, if_true, if_false, true_and, and_true, cond_true, sm0, sm1, sm1l, sm2, lc_lt, lc_gt, lc_eq, Int.toNat_natCast, Int.reduceToNat, Nat.reduceAdd, Nat.reduceEqDiff, Int.reduceLT, Int.reduceEq, Int.reduceNeg, Int.reduceAdd, Int.reduceMul, Nat.reduceMul, ms_n, ms_i, ms_l, ms_p, PM]
    refine cal_of rfl (m_one_ok (σ := σ) (n := n) (fun p hp => by rw [f1 174 p rfl]; exact hN p hp) hb2 hF1 hT1 c5 p1 ((f1 173 0 rfl).trans R.1.2) n7 (fun μ2 s3 k2 p2 d34 d5 d6 f2 => ?_))
    have F2 := f1.trans f2
    have hF2 := hF.fr F2 rfl
    have e6 : μ2 146 6 = -1 := d6.trans (c6.trans h6)
    have ra := R.2.2.2.2.2.2.2.2.1 a (by omega)
    have e176 : μ2 176 a = σ 14 a := (F2 176 a rfl).trans ra.1
    have eb : i_and (i_shr (σ 14 a) (b : Int)) 1 = bit (σ 14 a) b := by
      rw [i_bit (by omega) (by omega) (by omega), Int.toNat_natCast]
    have three : (b = a ∨ bit (σ 14 a) b = 1) → At (d + 5) 171 3 [some (.inr (.inr 146)), some (.inl (s0 : Int)), some (.inl (a : Int)), some (.inl (b : Int))] [] μ2 K := by
      intro h
      refine At.blk rfl rfl rfl fun sx => ?_
      simp (decide := true) only [RR, ms_app, toList_some, toList_none, if_true, if_false, true_and, and_true, cond_true, sm0, sm1, sm1l, sm2, lc_lt, lc_gt, lc_eq, Int.toNat_natCast, Int.reduceToNat, Nat.reduceAdd, Nat.reduceEqDiff, Int.reduceLT, Int.reduceEq, Int.reduceNeg, Int.reduceAdd, Int.reduceMul, Nat.reduceMul, ms_n, ms_i, ms_l, ms_p, PM, d34]
      refine cal_of rfl (m_fail d5 ?_)
      simp (decide := true) only [RR, ms_app, toList_some, toList_none, if_true, if_false, true_and, and_true, cond_true, sm0, sm1, sm1l, sm2, lc_lt, lc_gt, lc_eq, Int.toNat_natCast, Int.reduceToNat, Nat.reduceAdd, Nat.reduceEqDiff, Int.reduceLT, Int.reduceEq, Int.reduceNeg, Int.reduceAdd, Int.reduceMul, Nat.reduceMul, ms_n, ms_i, ms_l, ms_p, PM]
      exact bad _ _ _ 3 s2' rfl rfl (by decide) ((na_cm F2).trans (cyK.of ((Fr.same.set rfl).set rfl))) (hbad h)
    simp (decide := true) only [RR, ms_app, toList_some, toList_none, if_true, if_false, true_and, and_true, cond_true, sm0, sm1, sm1l, sm2, lc_lt, lc_gt, lc_eq, Int.toNat_natCast, Int.reduceToNat, Nat.reduceAdd, Nat.reduceEqDiff, Int.reduceLT, Int.reduceEq, Int.reduceNeg, Int.reduceAdd, Int.reduceMul, Nat.reduceMul, ms_n, ms_i, ms_l, ms_p, PM, d5, fxM hF2]
    by_cases c1 : (a : Int) = (b : Int)
    · rw [if_pos c1]
      exact three (Or.inl (by omega))
    · rw [if_neg c1]
      refine ⟨⟨by omega, by omega⟩, ?_⟩
      simp (decide := true) only [RR, ms_app, toList_some, toList_none, if_true, if_false, true_and, and_true, cond_true, sm0, sm1, sm1l, sm2, lc_lt, lc_gt, lc_eq, Int.toNat_natCast, Int.reduceToNat, Nat.reduceAdd, Nat.reduceEqDiff, Int.reduceLT, Int.reduceEq, Int.reduceNeg, Int.reduceAdd, Int.reduceMul, Nat.reduceMul, ms_n, ms_i, ms_l, ms_p, PM, e176, eb]
      by_cases c2 : bit (σ 14 a) b = 1
      · rw [if_pos c2]
        exact three (Or.inr c2)
      · rw [if_neg c2]
        exact hgo (by omega) c2 μ2 s3 k2 p2 d5 e6 F2
  refine At.blk rfl rfl rfl fun sx => ?_
  simp (decide := true) only [RR, ms_app, toList_some, toList_none, if_true, if_false, true_and, and_true, cond_true, sm0, sm1, sm1l, sm2, lc_lt, lc_gt, lc_eq, Int.toNat_natCast, Int.reduceToNat, Nat.reduceAdd, Nat.reduceEqDiff, Int.reduceLT, Int.reduceEq, Int.reduceNeg, Int.reduceAdd, Int.reduceMul, Nat.reduceMul, ms_n, ms_i, ms_l, ms_p, PM, fxM hF, hb, R.2.1.2]
  rcases H with ⟨s', g', τ, ⟨n', m', e, a, s2, e2, b, a1, a2, a3, a4, a5, a6, a7, a8, a9, b1, b2, b3⟩, hss, hG⟩ | ⟨k, x, ⟨n', m', a1, a2, a3, a4, a5⟩, hk, hH⟩
  · obtain rfl : n' = n := by have := R.1.1; omega
    obtain rfl : m' = m := by have := R.2.1.1; omega
    rw [if_neg (by omega)]
    refine At.blk rfl rfl rfl fun sx => ?_
    simp (decide := true) only [RR, ms_app, toList_some, toList_none, if_true, if_false, true_and, and_true, cond_true, sm0, sm1, sm1l, sm2, lc_lt, lc_gt, lc_eq, Int.toNat_natCast, Int.reduceToNat, Nat.reduceAdd, Nat.reduceEqDiff, Int.reduceLT, Int.reduceEq, Int.reduceNeg, Int.reduceAdd, Int.reduceMul, Nat.reduceMul, ms_n, ms_i, ms_l, ms_p, PM, hb]
    refine both e a s2 e2 b a5 a6 a7 (fun _ _ μ2 s3 k2 p2 d5 d6 f2 => ?_) (fun h => by rcases h with h | h; exact absurd h a8; exact absurd h a9)
    obtain rfl := k2.uniq b1
    have han := a5.2.1
    have hbn := a7.2.1
    have hF2 := hF.fr f2 rfl
    have hT2 : TxM μ2 N t := hT.cg (f2 146 3 rfl) (f2.row 147 rfl)
    have R1 : cyR σ μ2 s3 := hR.cg cyE.refl (f2.mono rfl) (by omega)
    obtain ⟨n2, m2, c2, r01, r02, r03, r1, r2, r3, r4, r5, r6, r7, r8, r9, r10⟩ := R1
    obtain rfl : n2 = n' := by have := r1.1; omega
    obtain rfl : m2 = m' := by have := r2.1; omega
    have w1 : Unit → w32 ((m2 : Int) + 1) = ((m2 + 1 : Nat) : Int) := fun _ => by rw [w32_small (by omega) (by omega)]; omega
    have ra := r9 a (by omega)
    have rb := r9 b (by omega)
    have oa := (cyo n7 hbn ra.2.1 ra.2.2).1
    have oc := (cyo n7 han rb.2.1 rb.2.2).1
    refine At.blk rfl rfl rfl fun sx => ?_
    simp (decide := true) only [RR, ms_app, toList_some, toList_none, if_true, if_false, true_and, and_true, cond_true, sm0, sm1, sm1l, sm2, lc_lt, lc_gt, lc_eq, Int.toNat_natCast, Int.reduceToNat, Nat.reduceAdd, Nat.reduceEqDiff, Int.reduceLT, Int.reduceEq, Int.reduceNeg, Int.reduceAdd, Int.reduceMul, Nat.reduceMul, ms_n, ms_i, ms_l, ms_p, PM, d5]
    refine At.blk rfl rfl rfl fun sx => ?_
    simp (decide := true) only [RR, ms_app, toList_some, toList_none, if_true, if_false, true_and, and_true, cond_true, sm0, sm1, sm1l, sm2, lc_lt, lc_gt, lc_eq, Int.toNat_natCast, Int.reduceToNat, Nat.reduceAdd, Nat.reduceEqDiff, Int.reduceLT, Int.reduceEq, Int.reduceNeg, Int.reduceAdd, Int.reduceMul, Nat.reduceMul, ms_n, ms_i, ms_l, ms_p, PM, fxM hF2, r2.2, w1 ()]
    rw [if_neg a8]
    refine ⟨⟨by omega, by omega⟩, ⟨by omega, by omega⟩, ⟨by omega, by omega⟩, ⟨by omega, by omega⟩, ?_⟩
    rw [ra.1, rb.1]
    refine hG _ ((((na_cm f2).set (Or.inr (Or.inr (Or.inl ⟨rfl, by omega⟩)))).set (Or.inr (Or.inr (Or.inl ⟨rfl, by omega⟩)))).set (Or.inl ⟨rfl, by decide⟩)) (by rw [b2]; exact p2.cg rfl rfl) d5 d6 ?_
    have R2 : cyR (mj_set (mj_set (mj_set σ 14 a (i_or (σ 14 a) (i_shl 1 (b : Int)))) 14 b (i_or (σ 14 b) (i_shl 1 (a : Int)))) 11 5 ((m2 + 1 : Nat) : Int)) (mj_set (mj_set (mj_set μ2 176 a (i_or (σ 14 a) (i_shl 1 (b : Int)))) 176 b (i_or (σ 14 b) (i_shl 1 (a : Int)))) 173 1 ((m2 + 1 : Nat) : Int)) s3 := by
      refine ⟨n2, m2 + 1, c2, r01, by omega, r03, r1, ⟨rfl, rfl⟩, r3, r4, r5, r6, r7, r8, fun p hp => ?_, fun r hr => (r10 r hr).cg rfl rfl rfl rfl rfl rfl⟩
      have x1 : mj_set (mj_set (mj_set σ 14 a (i_or (σ 14 a) (i_shl 1 (b : Int)))) 14 b (i_or (σ 14 b) (i_shl 1 (a : Int)))) 11 5 ((m2 + 1 : Nat) : Int) 14 p = if p = b then i_or (σ 14 b) (i_shl 1 (a : Int)) else if p = a then i_or (σ 14 a) (i_shl 1 (b : Int)) else σ 14 p := by
        rw [ms_row (by decide), ms_app, if_pos rfl, ms_app, if_pos rfl]
      have x2 : mj_set (mj_set (mj_set μ2 176 a (i_or (σ 14 a) (i_shl 1 (b : Int)))) 176 b (i_or (σ 14 b) (i_shl 1 (a : Int)))) 173 1 ((m2 + 1 : Nat) : Int) 176 p = if p = b then i_or (σ 14 b) (i_shl 1 (a : Int)) else if p = a then i_or (σ 14 a) (i_shl 1 (b : Int)) else μ2 176 p := by
        rw [ms_row (by decide), ms_app, if_pos rfl, ms_app, if_pos rfl]
      rw [x1, x2]
      by_cases e1 : p = b
      · rw [if_pos e1, if_pos e1]; exact ⟨rfl, oc⟩
      · rw [if_neg e1, if_neg e1]
        by_cases e2 : p = a
        · rw [if_pos e2, if_pos e2]; exact ⟨rfl, oa⟩
        · rw [if_neg e2, if_neg e2]; exact r9 p hp
    exact R2.cg b3 Fr.same (Nat.le_refl _)
  · obtain rfl : n' = n := by have := R.1.1; omega
    obtain rfl : m' = m := by have := R.2.1.1; omega
    rcases a5 with ⟨a5, rfl, rfl⟩ | ⟨a5, hh⟩
    · rw [if_pos (by omega)]
      refine cal_of rfl (m_fail hb ?_)
      simp (decide := true) only [RR, ms_app, toList_some, toList_none, if_true, if_false, true_and, and_true, cond_true, sm0, sm1, sm1l, sm2, lc_lt, lc_gt, lc_eq, Int.toNat_natCast, Int.reduceToNat, Nat.reduceAdd, Nat.reduceEqDiff, Int.reduceLT, Int.reduceEq, Int.reduceNeg, Int.reduceAdd, Int.reduceMul, Nat.reduceMul, ms_n, ms_i, ms_l, ms_p, PM]
      refine At.blk rfl rfl rfl fun sx => ?_
      simp (decide := true) only [RR, ms_app, toList_some, toList_none, if_true, if_false, true_and, and_true, cond_true, sm0, sm1, sm1l, sm2, lc_lt, lc_gt, lc_eq, Int.toNat_natCast, Int.reduceToNat, Nat.reduceAdd, Nat.reduceEqDiff, Int.reduceLT, Int.reduceEq, Int.reduceNeg, Int.reduceAdd, Int.reduceMul, Nat.reduceMul, ms_n, ms_i, ms_l, ms_p, PM]
      exact hH _ (cyK.of ((Fr.same.set rfl).set rfl)) rfl rfl
    · rw [if_neg (by omega)]
      refine At.blk rfl rfl rfl fun sx => ?_
      simp (decide := true) only [RR, ms_app, toList_some, toList_none, if_true, if_false, true_and, and_true, cond_true, sm0, sm1, sm1l, sm2, lc_lt, lc_gt, lc_eq, Int.toNat_natCast, Int.reduceToNat, Nat.reduceAdd, Nat.reduceEqDiff, Int.reduceLT, Int.reduceEq, Int.reduceNeg, Int.reduceAdd, Int.reduceMul, Nat.reduceMul, ms_n, ms_i, ms_l, ms_p, PM, hb]
      rcases hh with hh | ⟨e, a, s2, ha, k1, hh⟩
      · refine At.blk rfl rfl rfl fun sx => ?_
        simp (decide := true) only [RR, ms_app, toList_some, toList_none, if_true, if_false, true_and, and_true, cond_true, sm0, sm1, sm1l, sm2, lc_lt, lc_gt, lc_eq, Int.toNat_natCast, Int.reduceToNat, Nat.reduceAdd, Nat.reduceEqDiff, Int.reduceLT, Int.reduceEq, Int.reduceNeg, Int.reduceAdd, Int.reduceMul, Nat.reduceMul, ms_n, ms_i, ms_l, ms_p, PM]
        refine cal_of rfl (m_one_no hN hh hF hT hb hP R.1.2 n7 (fun μ1 c5 c6 f1 => ?_))
        have hF1 := hF.fr f1 rfl
        simp (decide := true) only [RR, ms_app, toList_some, toList_none, if_true, if_false, true_and, and_true, cond_true, sm0, sm1, sm1l, sm2, lc_lt, lc_gt, lc_eq, Int.toNat_natCast, Int.reduceToNat, Nat.reduceAdd, Nat.reduceEqDiff, Int.reduceLT, Int.reduceEq, Int.reduceNeg, Int.reduceAdd, Int.reduceMul, Nat.reduceMul, ms_n, ms_i, ms_l, ms_p, PM]
        refine cal_of rfl (m_one_bad hF1 (by rw [c5]; exact hk) ((f1 173 0 rfl).trans R.1.2) n7 ?_)
        simp (decide := true) only [RR, ms_app, toList_some, toList_none, if_true, if_false, true_and, and_true, cond_true, sm0, sm1, sm1l, sm2, lc_lt, lc_gt, lc_eq, Int.toNat_natCast, Int.reduceToNat, Nat.reduceAdd, Nat.reduceEqDiff, Int.reduceLT, Int.reduceEq, Int.reduceNeg, Int.reduceAdd, Int.reduceMul, Nat.reduceMul, ms_n, ms_i, ms_l, ms_p, PM, c5]
        rw [if_neg hk]
        exact bad μ1 _ _ k x c5 c6 hk (na_cm f1) hH
      · rcases hh with hh | ⟨e2, b, hb2, rfl, rfl, hh⟩
        · refine At.blk rfl rfl rfl fun sx => ?_
          simp (decide := true) only [RR, ms_app, toList_some, toList_none, if_true, if_false, true_and, and_true, cond_true, sm0, sm1, sm1l, sm2, lc_lt, lc_gt, lc_eq, Int.toNat_natCast, Int.reduceToNat, Nat.reduceAdd, Nat.reduceEqDiff, Int.reduceLT, Int.reduceEq, Int.reduceNeg, Int.reduceAdd, Int.reduceMul, Nat.reduceMul, ms_n, ms_i, ms_l, ms_p, PM]
          refine cal_of rfl (m_one_ok hN ha hF hT hb hP R.1.2 n7 (fun μ1 s2' k1' p1 c34 c5 c6 f1 => ?_))
          obtain rfl := k1'.uniq k1
          have hF1 := hF.fr f1 rfl
          have hT1 : TxM μ1 N t := hT.cg (f1 146 3 rfl) (f1.row 147 rfl)
          simp (decide := true) only [RR, ms_app, toList_some, toList_none, if_true, if_false, true_and, and_true, cond_true, sm0, sm1, sm1l, sm2, lc_lt, lc_gt, lc_eq, Int.toNat_natCast, Int.reduceToNat, Nat.reduceAdd, Nat.reduceEqDiff, Int.reduceLT, Int.reduceEq, Int.reduceNeg, Int.reduceAdd, Int.reduceMul, Nat.reduceMul, ms_n, ms_i, ms_l, ms_p, PM]
          refine cal_of rfl (m_one_no (σ := σ) (n := n') (fun p hp => by rw [f1 174 p rfl]; exact hN p hp) hh hF1 hT1 c5 p1 ((f1 173 0 rfl).trans R.1.2) n7 (fun μ2 d5 d6 f2 => ?_))
          simp (decide := true) only [RR, ms_app, toList_some, toList_none, if_true, if_false, true_and, and_true, cond_true, sm0, sm1, sm1l, sm2, lc_lt, lc_gt, lc_eq, Int.toNat_natCast, Int.reduceToNat, Nat.reduceAdd, Nat.reduceEqDiff, Int.reduceLT, Int.reduceEq, Int.reduceNeg, Int.reduceAdd, Int.reduceMul, Nat.reduceMul, ms_n, ms_i, ms_l, ms_p, PM, d5]
          rw [if_neg hk]
          exact bad μ2 _ _ k x d5 d6 hk ((na_cm f1).trans (na_cm f2)) hH
        · refine both e a s2 e2 b ha k1 hb2 (fun h1 h2 => ?_) (fun _ => hH)
          rcases hh with hh | hh
          · exact absurd hh h1
          · exact absurd hh h2
theorem cods_eq {q o : Nat} {cs : List Int} (h : ∀ (j : Nat) (hj : j < cs.length), μ q (o + j) = cs[j]) : codesOf μ q o cs.length = cs := by
  unfold codesOf
  refine List.ext_getElem (by simp) (fun i h1 h2 => ?_)
  rw [List.getElem_map, List.getElem_range]
  exact h i h2
theorem CdS.at {tk : Int} {cs : List Int} (h : CdS tk cs) (j : Nat) (hj : j < cs.length) : CdS tk [cs[j]] := by
  intro c hc
  rw [List.mem_singleton] at hc
  subst hc
  exact h _ (List.getElem_mem hj)
def m173 (μ : mM) (tk : Int) : mM := mj_set (mj_set (mj_set (mj_set (mj_set μ 146 46 tk) 146 89 0) 146 91 0) 146 92 0) 146 93 0
theorem m173_fr {tk : Int} : Fr [214, 215] [(146, 2), (146, 4), (146, 5), (146, 6), (146, 46), (146, 89), (146, 91), (146, 92), (146, 93)] μ (m173 μ tk) := ((((Fr.same.set rfl).set rfl).set rfl).set rfl).set rfl
theorem m_ruleT {r : Nat} {tk : Int} (hr : r < 3) (htk : tk = if r = 2 then 1 else 0) (hF : Fix μ) (hT : TxM μ N t) (hb : μ 146 5 = 0) (h6 : μ 146 6 = -1) (hP : PosM μ N t s g) (hR : cyR σ μ s0) (hs : s0 < s)
    (H : (∃ s' g' τ, cyRu r tk N t s g σ s' g' τ ∧ s ≤ s' ∧ cyG N t μ s' g' τ K) ∨ (∃ k x, cyRn r tk N t s0 s g σ k x ∧ k ≠ 0 ∧ cyH μ k x K)) : Mt (d + 12) 173 [.inr (.inr 146), .inl (r : Int), .inl (s0 : Int)] μ K := by
  have n16 := hT.2.1
  obtain ⟨n, m, c, n7, m12, cs0, R⟩ := id hR
  have rr := R.2.2.2.2.2.2.2.2.2 r hr
  refine Mt.go (lv := [some (.inr (.inr 146)), some (.inl (r : Int)), some (.inl (s0 : Int)), none]) rfl rfl rfl ?_
  -- a sum is begun
  have four : Mt (d + 11) 250 [.inr (.inr 146)] (m173 μ tk) (fun r' μ1 => r' = none ∧ (μ1 146 5 = 0 → At (d + 11) 173 5 [some (.inr (.inr 146)), some (.inl (r : Int)), some (.inl (s0 : Int)), none] [] μ1 K) ∧ (μ1 146 5 ≠ 0 → K none μ1)) → At (d + 11) 173 2 [some (.inr (.inr 146)), some (.inl (r : Int)), some (.inl (s0 : Int)), none] [] μ K := by
    intro h
    by_cases c2 : r = 2
    · subst c2
      rw [if_pos rfl] at htk
      subst htk
      refine At.blk rfl rfl rfl fun sx => ?_
      simp (decide := true) only [RR, ms_app, toList_some, toList_none, if_true, if_false, true_and, and_true, cond_true, sm0, sm1, sm1l, sm2, lc_lt, lc_gt, lc_eq, Int.toNat_natCast, Int.reduceToNat, Nat.reduceAdd, Nat.reduceEqDiff, Int.reduceLT, Int.reduceEq, Int.reduceNeg, Int.reduceAdd, Int.reduceMul, Nat.reduceMul, ms_n, ms_i, ms_l, ms_p, PM]
      refine At.blk rfl rfl rfl fun sx => ?_
      simp (decide := true) only [RR, ms_app, toList_some, toList_none, if_true, if_false, true_and, and_true, cond_true, sm0, sm1, sm1l, sm2, lc_lt, lc_gt, lc_eq, Int.toNat_natCast, Int.reduceToNat, Nat.reduceAdd, Nat.reduceEqDiff, Int.reduceLT, Int.reduceEq, Int.reduceNeg, Int.reduceAdd, Int.reduceMul, Nat.reduceMul, ms_n, ms_i, ms_l, ms_p, PM]
      refine cal_of rfl (h.mono (fun r' μ1 hq => ?_))
      obtain ⟨rfl, h1, h2⟩ := hq
      simp (decide := true) only [RR, ms_app, toList_some, toList_none, if_true, if_false, true_and, and_true, cond_true, sm0, sm1, sm1l, sm2, lc_lt, lc_gt, lc_eq, Int.toNat_natCast, Int.reduceToNat, Nat.reduceAdd, Nat.reduceEqDiff, Int.reduceLT, Int.reduceEq, Int.reduceNeg, Int.reduceAdd, Int.reduceMul, Nat.reduceMul, ms_n, ms_i, ms_l, ms_p, PM]
      by_cases c5 : μ1 146 5 = 0
      · rw [if_pos c5]; exact h1 c5
      · rw [if_neg c5]; exact h2 c5
    · rw [if_neg c2] at htk
      subst htk
      refine At.blk rfl rfl rfl fun sx => ?_
      simp (decide := true) only [RR, ms_app, toList_some, toList_none, if_true, if_false, true_and, and_true, cond_true, sm0, sm1, sm1l, sm2, lc_lt, lc_gt, lc_eq, Int.toNat_natCast, Int.reduceToNat, Nat.reduceAdd, Nat.reduceEqDiff, Int.reduceLT, Int.reduceEq, Int.reduceNeg, Int.reduceAdd, Int.reduceMul, Nat.reduceMul, ms_n, ms_i, ms_l, ms_p, PM]
      rw [if_neg (by omega)]
      refine At.blk rfl rfl rfl fun sx => ?_
      simp (decide := true) only [RR, ms_app, toList_some, toList_none, if_true, if_false, true_and, and_true, cond_true, sm0, sm1, sm1l, sm2, lc_lt, lc_gt, lc_eq, Int.toNat_natCast, Int.reduceToNat, Nat.reduceAdd, Nat.reduceEqDiff, Int.reduceLT, Int.reduceEq, Int.reduceNeg, Int.reduceAdd, Int.reduceMul, Nat.reduceMul, ms_n, ms_i, ms_l, ms_p, PM]
      refine At.blk rfl rfl rfl fun sx => ?_
      simp (decide := true) only [RR, ms_app, toList_some, toList_none, if_true, if_false, true_and, and_true, cond_true, sm0, sm1, sm1l, sm2, lc_lt, lc_gt, lc_eq, Int.toNat_natCast, Int.reduceToNat, Nat.reduceAdd, Nat.reduceEqDiff, Int.reduceLT, Int.reduceEq, Int.reduceNeg, Int.reduceAdd, Int.reduceMul, Nat.reduceMul, ms_n, ms_i, ms_l, ms_p, PM]
      refine cal_of rfl (h.mono (fun r' μ1 hq => ?_))
      obtain ⟨rfl, h1, h2⟩ := hq
      simp (decide := true) only [RR, ms_app, toList_some, toList_none, if_true, if_false, true_and, and_true, cond_true, sm0, sm1, sm1l, sm2, lc_lt, lc_gt, lc_eq, Int.toNat_natCast, Int.reduceToNat, Nat.reduceAdd, Nat.reduceEqDiff, Int.reduceLT, Int.reduceEq, Int.reduceNeg, Int.reduceAdd, Int.reduceMul, Nat.reduceMul, ms_n, ms_i, ms_l, ms_p, PM]
      by_cases c5 : μ1 146 5 = 0
      · rw [if_pos c5]; exact h1 c5
      · rw [if_neg c5]; exact h2 c5
  have pre : QT (m173 μ tk) N t tk s g [] [] [] 0 := by
    refine ⟨⟨hF.fr (m173_fr (μ := μ) (tk := tk)) rfl, hT.cg rfl rfl, hb, hP.cg rfl rfl, ⟨rfl, h6⟩, ⟨rfl, trivial⟩, ⟨rfl, trivial⟩, rfl, rfl, Nat.zero_le _⟩, by show 0 + 0 < s; omega, by decide⟩
  have k173 : cyK cmT μ (m173 μ tk) := cyK.of (m173_fr.mono rfl)
  rcases H with ⟨s', g', τ, ⟨L, cs, a1, a2, a3, a4, a5, a6, a7, a8, a9, b1, b2, b3⟩, hss, hG⟩ | ⟨k, x, hh, hk, hH⟩
  · have e179 : μ 179 r = -1 := by
      rcases rr with rr | ⟨a, b, x1, x2, x3, x4, _⟩
      · exact rr.2
      · exfalso; rw [x3, x4] at a1; omega
    refine At.blk rfl rfl rfl fun sx => ?_
    simp (decide := true) only [RR, ms_app, toList_some, toList_none, if_true, if_false, true_and, and_true, cond_true, sm0, sm1, sm1l, sm2, lc_lt, lc_gt, lc_eq, Int.toNat_natCast, Int.reduceToNat, Nat.reduceAdd, Nat.reduceEqDiff, Int.reduceLT, Int.reduceEq, Int.reduceNeg, Int.reduceAdd, Int.reduceMul, Nat.reduceMul, ms_n, ms_i, ms_l, ms_p, PM, fxM hF, hb]
    refine ⟨⟨by omega, by omega⟩, ?_⟩
    simp (decide := true) only [RR, ms_app, toList_some, toList_none, if_true, if_false, true_and, and_true, cond_true, sm0, sm1, sm1l, sm2, lc_lt, lc_gt, lc_eq, Int.toNat_natCast, Int.reduceToNat, Nat.reduceAdd, Nat.reduceEqDiff, Int.reduceLT, Int.reduceEq, Int.reduceNeg, Int.reduceAdd, Int.reduceMul, Nat.reduceMul, ms_n, ms_i, ms_l, ms_p, e179]
    refine At.blk rfl rfl rfl fun sx => ?_
    simp (decide := true) only [RR, ms_app, toList_some, toList_none, if_true, if_false, true_and, and_true, cond_true, sm0, sm1, sm1l, sm2, lc_lt, lc_gt, lc_eq, Int.toNat_natCast, Int.reduceToNat, Nat.reduceAdd, Nat.reduceEqDiff, Int.reduceLT, Int.reduceEq, Int.reduceNeg, Int.reduceAdd, Int.reduceMul, Nat.reduceMul, ms_n, ms_i, ms_l, ms_p, PM, hb]
    refine four (m_sum_ok pre (by decide) a3.2.2.1 a3.2.2.2 (fun μ1 q1 f1 => ?_))
    rw [List.append_nil] at q1
    have sN := q1.le.1
    have F1 : Fr [214, 215] [(146, 2), (146, 4), (146, 5), (146, 6), (146, 46), (146, 89), (146, 91), (146, 92), (146, 93)] μ μ1 := m173_fr.trans (f1.mono rfl)
    have hF1 := hF.fr F1 rfl
    have K1 : cyK cmT μ μ1 := cyK.of (F1.mono rfl)
    obtain ⟨⟨-, -, q5, qP, ⟨-, q6⟩, ⟨q89, q214⟩, -, -, -, -⟩, -, -⟩ := q1
    rw [List.length_reverse] at q89
    have g214 := fun j hj => Stk.rev q214 j hj
    have R1 : cyR σ μ1 s0 := hR.cg cyE.refl (F1.mono rfl) (Nat.le_refl _)
    obtain ⟨n2, m2, c2, r01, r02, r03, r1, r2, r3, r4, r5, r6, r7, r8, r9, r10⟩ := R1
    obtain rfl : c2 = L := by have := r3.1; omega
    refine ⟨rfl, fun _ => ?_, fun h => absurd q5 h⟩
    have hc : c2 + cs.length ≤ 1600 := by omega
    -- the codes are laid down
    have loop : ∀ (i k : Nat) (μ2 : mM), cs.length - k = i → k ≤ cs.length → cyK cmT μ1 μ2 → Fr [181] [(146, 44)] (mj_set μ1 179 r (c2 : Int)) μ2 → (∀ j, j < c2 → μ2 181 j = μ1 181 j) → (∀ (j : Nat) (hj : j < cs.length), j < k → μ2 181 (c2 + j) = cs[j]) → μ2 146 44 = ((c2 + k : Nat) : Int) → At (d + 11) 173 6 [some (.inr (.inr 146)), some (.inl (r : Int)), some (.inl (s0 : Int)), some (.inl (k : Int))] [] μ2 K := by
      intro i
      induction i with
      | zero =>
        intro k μ2 hi hk k2 f2 hlo hhi e44
        obtain rfl : k = cs.length := by omega
        have hF2 : Fix μ2 := (hF1.fr (Fr.same.setr (L := [179]) (T := []) rfl) rfl).fr f2 rfl
        have e89 : μ2 146 89 = (cs.length : Int) := (f2 146 89 rfl).trans q89
        refine At.blk rfl rfl rfl fun sx => ?_
        simp (decide := true) only [RR, ms_app, toList_some, toList_none, if_true, if_false, true_and, and_true, cond_true, sm0, sm1, sm1l, sm2, lc_lt, lc_gt, lc_eq, Int.toNat_natCast, Int.reduceToNat, Nat.reduceAdd, Nat.reduceEqDiff, Int.reduceLT, Int.reduceEq, Int.reduceNeg, Int.reduceAdd, Int.reduceMul, Nat.reduceMul, ms_n, ms_i, ms_l, ms_p, PM, e89]
        rw [if_neg (by omega)]
        refine At.blk rfl rfl rfl fun sx => ?_
        simp (decide := true) only [RR, ms_app, toList_some, toList_none, if_true, if_false, true_and, and_true, cond_true, sm0, sm1, sm1l, sm2, lc_lt, lc_gt, lc_eq, Int.toNat_natCast, Int.reduceToNat, Nat.reduceAdd, Nat.reduceEqDiff, Int.reduceLT, Int.reduceEq, Int.reduceNeg, Int.reduceAdd, Int.reduceMul, Nat.reduceMul, ms_n, ms_i, ms_l, ms_p, PM, fxM hF2, e44]
        refine ⟨⟨by omega, by omega⟩, ?_⟩
        have p2 : PosM μ2 N t s' g' := qP.cg (f2 146 2 rfl) (f2 146 4 rfl)
        refine hG _ ((K1.trans k2).set (Or.inr (Or.inr (Or.inr (Or.inr (Or.inr (Or.inl ⟨rfl, hr⟩))))))) (p2.cg rfl rfl) ((f2 146 5 rfl).trans q5) ((f2 146 6 rfl).trans q6) ?_
        have v173 : μ2 173 = μ1 173 := f2.row 173 rfl
        have v174 : μ2 174 = μ1 174 := f2.row 174 rfl
        have v175 : μ2 175 = μ1 175 := f2.row 175 rfl
        have v176 : μ2 176 = μ1 176 := f2.row 176 rfl
        have v177 : μ2 177 = μ1 177 := f2.row 177 rfl
        have v178 : μ2 178 = μ1 178 := f2.row 178 rfl
        have v180 : μ2 180 = μ1 180 := f2.row 180 rfl
        have v179 : μ2 179 = mj_set μ1 179 r (c2 : Int) 179 := f2.row 179 rfl
        obtain ⟨t11, t12, t13, t14⟩ := a7
        refine ⟨n2, m2, c2 + cs.length, r01, r02, by omega, ?_⟩
        unfold cyRn'
        rw [t11, t12, t13, t14, a8]
        show (_ ∧ μ2 173 0 = _) ∧ (_ ∧ μ2 173 1 = _) ∧ (_ ∧ μ2 146 44 = _) ∧ (μ2 177 0 = _ ∧ _) ∧ (μ2 177 1 = _ ∧ _) ∧ (μ2 178 0 = _ ∧ _) ∧ (μ2 178 1 = _ ∧ _) ∧ (∀ p, p < n2 → NameR _ (μ2 174 p) ∧ μ2 175 p = _ ∧ _) ∧ (∀ p, p < 7 → μ2 176 p = _ ∧ _) ∧ _
        rw [v173, v174, v175, v176, v177, v178]
        refine ⟨r1, r2, ⟨rfl, e44⟩, r4, r5, r6, r7, r8, r9, fun r' hr' => ?_⟩
        by_cases er : r' = r
        · subst er
          refine Or.inr ⟨c2, c2 + cs.length, ?_, Nat.le_refl _, ?_, ?_, ?_, ?_, fun j hj => ?_, ?_⟩
          · have hty : tys cs [] = some [false] := a3.1 [] (by decide)
            rcases Nat.eq_zero_or_pos cs.length with h | h
            · rw [List.length_eq_zero_iff.mp h] at hty
              cases hty
            · omega
          · rw [a9, ms_app, if_pos rfl, if_pos rfl]
          · rw [b1, ms_app, if_pos rfl, if_pos rfl]
          · rw [ms_row (by decide), v179, ms_app, if_pos rfl, if_pos rfl]
          · rw [ms_app, if_pos rfl, if_pos rfl]
          · have hj2 : j < cs.length := by omega
            rw [ms_row (by decide), hhi j hj2 hj2]
            refine (b3 j hj2).city (a3.2.1.at j hj2) ?_ ?_
            · rw [htk]; split <;> decide
            · rw [htk]
              by_cases c3 : r' = 2
              · rw [if_pos c3, if_pos c3]; rfl
              · rw [if_neg c3, if_neg c3]; rfl
          · rw [show c2 + cs.length - c2 = cs.length by omega, cods_eq (cs := cs) (fun j hj => by rw [ms_row (by decide)]; exact hhi j hj hj)]
            exact tys_hts cs [] [false] (a3.1 [] (by decide))
        · have e17 : τ 17 r' = σ 17 r' := by rw [a9, ms_app, if_pos rfl, if_neg er]
          have e18 : τ 18 r' = σ 18 r' := by rw [b1, ms_app, if_pos rfl, if_neg er]
          have f179 : mj_set μ2 180 r ((c2 + cs.length : Nat) : Int) 179 r' = μ1 179 r' := by rw [ms_row (by decide), v179, ms_app, if_pos rfl, if_neg er]
          have f180 : mj_set μ2 180 r ((c2 + cs.length : Nat) : Int) 180 r' = μ1 180 r' := by rw [ms_app, if_pos rfl, if_neg er, v180]
          have f181 : mj_set μ2 180 r ((c2 + cs.length : Nat) : Int) 181 = μ2 181 := by rw [ms_row (by decide)]
          rcases r10 r' hr' with ⟨x1, x2⟩ | ⟨a, b, x1, x2, x3, x4, x5, x6, x7, x8⟩
          · exact Or.inl ⟨by rw [e17, e18]; exact x1, by rw [f179]; exact x2⟩
          · refine Or.inr ⟨a, b, x1, by omega, by rw [e17]; exact x3, by rw [e18]; exact x4, by rw [f179]; exact x5, by rw [f180]; exact x6, fun j hj => ?_, ?_⟩
            · rw [f181, hlo _ (by omega), b2 _ (by omega)]
              exact x7 j hj
            · rw [← x8]
              congr 1
              unfold codesOf
              refine List.map_congr_left (fun j hj => ?_)
              rw [List.mem_range] at hj
              rw [f181]
              exact hlo _ (by omega)
      | succ i ih =>
        intro k μ2 hi hk k2 f2 hlo hhi e44
        have hF2 : Fix μ2 := (hF1.fr (Fr.same.setr (L := [179]) (T := []) rfl) rfl).fr f2 rfl
        have e89 : μ2 146 89 = (cs.length : Int) := (f2 146 89 rfl).trans q89
        have kl : k < cs.length := by omega
        have e214 : μ2 214 k = cs[k] := (f2 214 k rfl).trans (g214 k kl)
        have w1 : Unit → w32 ((k : Int) + 1) = ((k + 1 : Nat) : Int) := fun _ => by rw [w32_small (by omega) (by omega)]; omega
        have w2 : Unit → w32 (((c2 + k : Nat) : Int) + 1) = ((c2 + (k + 1) : Nat) : Int) := fun _ => by rw [w32_small (by omega) (by omega)]; omega
        refine At.blk rfl rfl rfl fun sx => ?_
        simp (decide := true) only [RR, ms_app, toList_some, toList_none, if_true, if_false, true_and, and_true, cond_true, sm0, sm1, sm1l, sm2, lc_lt, lc_gt, lc_eq, Int.toNat_natCast, Int.reduceToNat, Nat.reduceAdd, Nat.reduceEqDiff, Int.reduceLT, Int.reduceEq, Int.reduceNeg, Int.reduceAdd, Int.reduceMul, Nat.reduceMul, ms_n, ms_i, ms_l, ms_p, PM, fxM hF2, e89, e44, e214, w1 (), w2 ()]
        rw [if_pos (by omega)]
        refine ⟨⟨by omega, by omega⟩, ⟨by omega, by omega⟩, ?_⟩
        refine ih (k + 1) _ (by omega) (by omega) ((k2.set (Or.inr (Or.inr (Or.inr (Or.inr (Or.inr (Or.inr ⟨rfl, by omega⟩))))))).trans (cyK.of (Fr.same.set rfl))) ((f2.setr rfl).set rfl) (fun j hj => ?_) (fun j hj hjk => ?_) rfl
        · rw [ms_row (by decide), ms_app, if_pos rfl, if_neg (by omega)]
          exact hlo j hj
        · rw [ms_row (by decide), ms_app, if_pos rfl]
          by_cases ej : j = k
          · subst ej; rw [if_pos rfl]
          · rw [if_neg (by omega)]; exact hhi j hj (by omega)
    refine At.blk rfl rfl rfl fun sx => ?_
    simp (decide := true) only [RR, ms_app, toList_some, toList_none, if_true, if_false, true_and, and_true, cond_true, sm0, sm1, sm1l, sm2, lc_lt, lc_gt, lc_eq, Int.toNat_natCast, Int.reduceToNat, Nat.reduceAdd, Nat.reduceEqDiff, Int.reduceLT, Int.reduceEq, Int.reduceNeg, Int.reduceAdd, Int.reduceMul, Nat.reduceMul, ms_n, ms_i, ms_l, ms_p, PM, fxM hF1, r3.2]
    refine ⟨⟨by omega, by omega⟩, ?_⟩
    exact loop cs.length 0 _ rfl (Nat.zero_le _) (cyK.same.set (Or.inr (Or.inr (Or.inr (Or.inr (Or.inl ⟨rfl, hr⟩)))))) Fr.same (fun j hj => by rw [ms_row (by decide)]) (fun j _ hj => absurd hj (Nat.not_lt_zero j)) r3.2
  · rcases hh with ⟨h1, rfl, rfl⟩ | ⟨h1, hs0, h2⟩
    · have e179 : μ 179 r ≠ -1 := by
        rcases rr with rr | ⟨a, b, x1, x2, x3, x4, x5, _⟩
        · exact absurd h1 rr.1
        · rw [x5]; omega
      refine At.blk rfl rfl rfl fun sx => ?_
      simp (decide := true) only [RR, ms_app, toList_some, toList_none, if_true, if_false, true_and, and_true, cond_true, sm0, sm1, sm1l, sm2, lc_lt, lc_gt, lc_eq, Int.toNat_natCast, Int.reduceToNat, Nat.reduceAdd, Nat.reduceEqDiff, Int.reduceLT, Int.reduceEq, Int.reduceNeg, Int.reduceAdd, Int.reduceMul, Nat.reduceMul, ms_n, ms_i, ms_l, ms_p, PM, fxM hF, hb]
      refine ⟨⟨by omega, by omega⟩, ?_⟩
      rw [if_neg e179]
      refine cal_of rfl (m_fail hb ?_)
      simp (decide := true) only [RR, ms_app, toList_some, toList_none, if_true, if_false, true_and, and_true, cond_true, sm0, sm1, sm1l, sm2, lc_lt, lc_gt, lc_eq, Int.toNat_natCast, Int.reduceToNat, Nat.reduceAdd, Nat.reduceEqDiff, Int.reduceLT, Int.reduceEq, Int.reduceNeg, Int.reduceAdd, Int.reduceMul, Nat.reduceMul, ms_n, ms_i, ms_l, ms_p, PM]
      refine At.blk rfl rfl rfl fun sx => ?_
      simp (decide := true) only [RR, ms_app, toList_some, toList_none, if_true, if_false, true_and, and_true, cond_true, sm0, sm1, sm1l, sm2, lc_lt, lc_gt, lc_eq, Int.toNat_natCast, Int.reduceToNat, Nat.reduceAdd, Nat.reduceEqDiff, Int.reduceLT, Int.reduceEq, Int.reduceNeg, Int.reduceAdd, Int.reduceMul, Nat.reduceMul, ms_n, ms_i, ms_l, ms_p, PM]
      exact hH _ (cyK.of ((Fr.same.set rfl).set rfl)) rfl rfl
    · have e179 : μ 179 r = -1 := by
        rcases rr with rr | ⟨a, b, x1, x2, x3, x4, _⟩
        · exact rr.2
        · exfalso; rw [x3, x4] at h1; omega
      refine At.blk rfl rfl rfl fun sx => ?_
      simp (decide := true) only [RR, ms_app, toList_some, toList_none, if_true, if_false, true_and, and_true, cond_true, sm0, sm1, sm1l, sm2, lc_lt, lc_gt, lc_eq, Int.toNat_natCast, Int.reduceToNat, Nat.reduceAdd, Nat.reduceEqDiff, Int.reduceLT, Int.reduceEq, Int.reduceNeg, Int.reduceAdd, Int.reduceMul, Nat.reduceMul, ms_n, ms_i, ms_l, ms_p, PM, fxM hF, hb]
      refine ⟨⟨by omega, by omega⟩, ?_⟩
      simp (decide := true) only [RR, ms_app, toList_some, toList_none, if_true, if_false, true_and, and_true, cond_true, sm0, sm1, sm1l, sm2, lc_lt, lc_gt, lc_eq, Int.toNat_natCast, Int.reduceToNat, Nat.reduceAdd, Nat.reduceEqDiff, Int.reduceLT, Int.reduceEq, Int.reduceNeg, Int.reduceAdd, Int.reduceMul, Nat.reduceMul, ms_n, ms_i, ms_l, ms_p, e179]
      refine At.blk rfl rfl rfl fun sx => ?_
      simp (decide := true) only [RR, ms_app, toList_some, toList_none, if_true, if_false, true_and, and_true, cond_true, sm0, sm1, sm1l, sm2, lc_lt, lc_gt, lc_eq, Int.toNat_natCast, Int.reduceToNat, Nat.reduceAdd, Nat.reduceEqDiff, Int.reduceLT, Int.reduceEq, Int.reduceNeg, Int.reduceAdd, Int.reduceMul, Nat.reduceMul, ms_n, ms_i, ms_l, ms_p, PM, hb]
      refine four (m_sum_no pre (by decide) h2 (fun μ1 d5 d6 f1 _ => ?_))
      refine ⟨rfl, fun h => absurd (d5.symm.trans h) hk, fun _ => ?_⟩
      exact hH μ1 (k173.trans (cyK.of (f1.mono rfl))) d5 d6
end
