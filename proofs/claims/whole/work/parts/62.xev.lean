/-! the class: the value of a sum -/
theorem xor_neg {a b : Int} (ha : -2147483648 ≤ a ∧ a < 2147483648) (hb : -2147483648 ≤ b ∧ b < 2147483648) : i_xor a b < 0 ↔ ¬(a < 0 ↔ b < 0) := by
  unfold i_xor
  have e : ∀ x : Int32, decide (x.toInt < 0) = x.toBitVec.msb := fun x => BitVec.msb_eq_toInt.symm
  have h1 := e (Int32.ofInt a ^^^ Int32.ofInt b)
  rw [Int32.toBitVec_xor, BitVec.msb_xor, ← e, ← e, Int32.toInt_ofInt_of_le (by omega) (by omega), Int32.toInt_ofInt_of_le (by omega) (by omega)] at h1
  by_cases c1 : a < 0
  · by_cases c2 : b < 0
    · simp only [c1, c2, decide_true, Bool.xor_self, decide_eq_false_iff_not] at h1
      simp only [h1, c1, c2, not_true]
    · simp only [c1, c2, decide_true, decide_false, Bool.xor_false, decide_eq_true_eq] at h1
      simp only [h1, c1, c2, iff_false, not_true, not_false_eq_true]
  · by_cases c2 : b < 0
    · simp only [c1, c2, decide_true, decide_false, Bool.xor_true, Bool.not_false, decide_eq_true_eq] at h1
      simp only [h1, c1, c2, iff_true, not_false_eq_true]
    · simp only [c1, c2, decide_false, Bool.xor_self, decide_eq_false_iff_not] at h1
      simp only [h1, c1, c2, not_true]
section
variable {d : Nat} {σ : mM} {K : Option mV → mM → Prop}
theorem x_floorDiv {a b : Int} (ha : -1000000 ≤ a ∧ a ≤ 1000000) (hb : -1000000 ≤ b ∧ b ≤ 1000000) (h0 : b ≠ 0) (hK : K (some (.inl (flo a b))) σ) : Mt (d + 1) 274 [.inl a, .inl b] σ K := by
  refine Mt.go (lv := [some (.inl a), some (.inl b), none]) rfl rfl rfl ?_
  have h2 := Int.natAbs_tdiv_le_natAbs a b
  have h3 := Int.tmod_add_mul_tdiv a b
  have h4 : (a.tdiv b * b).natAbs ≤ a.natAbs := by
    rw [Int.natAbs_mul, Int.natAbs_tdiv]
    exact Nat.div_mul_le_self _ _
  have e : b * a.tdiv b = a.tdiv b * b := Int.mul_comm _ _
  have hx := xor_neg (a := a) (b := b) (by omega) (by omega)
  have one : a.tmod b = 0 ∨ (a < 0 ↔ b < 0) → At d 274 1 [some (.inl a), some (.inl b), some (.inl (a.tdiv b))] [] σ K := by
    intro hc
    refine At.blk rfl rfl rfl fun sx => ?_
    simp (decide := true) only [RR, ms_app, toList_some, toList_none, if_true, if_false, true_and, and_true, cond_true, sm0, sm1, sm1l, sm2, lc_lt, lc_gt, lc_eq, Int.toNat_natCast, Int.reduceToNat, Nat.reduceAdd, Nat.reduceEqDiff, Int.reduceLT, Int.reduceEq, Int.reduceNeg, Int.reduceAdd, Int.reduceMul, Nat.reduceMul, ms_n, ms_i, ms_l, ms_p, PX]
    unfold flo at hK
    rw [if_neg h0, if_neg (by rcases hc with hc | hc; exact fun h => h.1 hc; exact fun h => h.2 hc)] at hK
    exact hK
  refine At.blk rfl rfl rfl fun sx => ?_
  simp (decide := true) only [RR, ms_app, toList_some, toList_none, if_true, if_false, true_and, and_true, cond_true, sm0, sm1, sm1l, sm2, lc_lt, lc_gt, lc_eq, Int.toNat_natCast, Int.reduceToNat, Nat.reduceAdd, Nat.reduceEqDiff, Int.reduceLT, Int.reduceEq, Int.reduceNeg, Int.reduceAdd, Int.reduceMul, Nat.reduceMul, ms_n, ms_i, ms_l, ms_p, PX]
  refine ⟨h0, ?_⟩
  rw [w32_small (x := a.tdiv b) (by omega) (by omega), w32_small (x := a.tdiv b * b) (by omega) (by omega)]
  by_cases c1 : i_xor a b < 0
  · rw [if_pos c1]
    by_cases c2 : a.tdiv b * b = a
    · rw [if_pos c2]
      exact one (Or.inl (by omega))
    · rw [if_neg c2]
      rw [w32_small (by omega) (by omega)]
      unfold flo at hK
      rw [if_neg h0, if_pos ⟨by omega, hx.mp c1⟩] at hK
      exact hK
  · rw [if_neg c1]
    exact one (Or.inr (Classical.byContradiction (fun hn => c1 (hx.mpr hn))))
theorem x_clip {v : Int} {k a b : Int} (hK : K (some (.inl (clip v))) σ) : At (d + 1) 103 9 [some (.inl k), some (.inl a), some (.inl b), some (.inr (.inl v)), none] [] σ K := by
  refine At.blk rfl rfl rfl fun sx => ?_
  simp (decide := true) only [RR, ms_app, toList_some, toList_none, if_true, if_false, true_and, and_true, cond_true, sm0, sm1, sm1l, sm2, lc_lt, lc_gt, lc_eq, Int.toNat_natCast, Int.reduceToNat, Nat.reduceAdd, Nat.reduceEqDiff, Int.reduceLT, Int.reduceEq, Int.reduceNeg, Int.reduceAdd, Int.reduceMul, Nat.reduceMul, ms_n, ms_i, ms_l, ms_p, PX]
  refine cal_of rfl (x_lmin (fun hh => ?_) (fun hh => ?_))
  · have e : clip v = 1000000 := by
      unfold clip
      split
      · rfl
      · rw [if_neg (by omega)]; omega
    rw [e] at hK
    simp (decide := true) only [RR, ms_app, toList_some, toList_none, if_true, if_false, true_and, and_true, cond_true, sm0, sm1, sm1l, sm2, lc_lt, lc_gt, lc_eq, Int.toNat_natCast, Int.reduceToNat, Nat.reduceAdd, Nat.reduceEqDiff, Int.reduceLT, Int.reduceEq, Int.reduceNeg, Int.reduceAdd, Int.reduceMul, Nat.reduceMul, ms_n, ms_i, ms_l, ms_p, PX]
    refine cal_of rfl (x_lmax (fun h2 => absurd h2 (by decide)) (fun _ => ?_))
    simp (decide := true) only [RR, ms_app, toList_some, toList_none, if_true, if_false, true_and, and_true, cond_true, sm0, sm1, sm1l, sm2, lc_lt, lc_gt, lc_eq, Int.toNat_natCast, Int.reduceToNat, Nat.reduceAdd, Nat.reduceEqDiff, Int.reduceLT, Int.reduceEq, Int.reduceNeg, Int.reduceAdd, Int.reduceMul, Nat.reduceMul, ms_n, ms_i, ms_l, ms_p, PX]
    exact hK
  · simp (decide := true) only [RR, ms_app, toList_some, toList_none, if_true, if_false, true_and, and_true, cond_true, sm0, sm1, sm1l, sm2, lc_lt, lc_gt, lc_eq, Int.toNat_natCast, Int.reduceToNat, Nat.reduceAdd, Nat.reduceEqDiff, Int.reduceLT, Int.reduceEq, Int.reduceNeg, Int.reduceAdd, Int.reduceMul, Nat.reduceMul, ms_n, ms_i, ms_l, ms_p, PX]
    refine cal_of rfl (x_lmax (fun h2 => ?_) (fun h2 => ?_))
    · have e : clip v = -1000000 := by
        unfold clip
        rw [if_neg (by omega)]
        split
        · rfl
        · omega
      rw [e] at hK
      simp (decide := true) only [RR, ms_app, toList_some, toList_none, if_true, if_false, true_and, and_true, cond_true, sm0, sm1, sm1l, sm2, lc_lt, lc_gt, lc_eq, Int.toNat_natCast, Int.reduceToNat, Nat.reduceAdd, Nat.reduceEqDiff, Int.reduceLT, Int.reduceEq, Int.reduceNeg, Int.reduceAdd, Int.reduceMul, Nat.reduceMul, ms_n, ms_i, ms_l, ms_p, PX]
      exact hK
    · rw [clip_id (by omega)] at hK
      simp (decide := true) only [RR, ms_app, toList_some, toList_none, if_true, if_false, true_and, and_true, cond_true, sm0, sm1, sm1l, sm2, lc_lt, lc_gt, lc_eq, Int.toNat_natCast, Int.reduceToNat, Nat.reduceAdd, Nat.reduceEqDiff, Int.reduceLT, Int.reduceEq, Int.reduceNeg, Int.reduceAdd, Int.reduceMul, Nat.reduceMul, ms_n, ms_i, ms_l, ms_p, PX]
      rw [w32_small (by omega) (by omega)]
      exact hK
theorem x_joined {k a b : Int} (ha : -1000000 ≤ a ∧ a ≤ 1000000) (hb : -1000000 ≤ b ∧ b ≤ 1000000) (hk : 12 ≤ k ∧ k ≤ 17) (hK : K (some (.inl (joinC (k - 11) a b))) σ) : Mt (d + 2) 103 [.inl k, .inl a, .inl b] σ K := by
  refine Mt.go (lv := [some (.inl k), some (.inl a), some (.inl b), none, none]) rfl rfl rfl ?_
  have hm : -1000000000000 ≤ a * b ∧ a * b ≤ 1000000000000 := by
    have h1 : (a * b).natAbs ≤ 1000000 * 1000000 := by
      rw [Int.natAbs_mul]
      exact Nat.mul_le_mul (by omega) (by omega)
    omega
  have nine : ∀ v, clip v = joinC (k - 11) a b → At (d + 1) 103 9 [some (.inl k), some (.inl a), some (.inl b), some (.inr (.inl v)), none] [] σ K := fun v hv => x_clip (by rw [hv]; exact hK)
  refine At.blk rfl rfl rfl fun sx => ?_
  simp (decide := true) only [RR, ms_app, toList_some, toList_none, if_true, if_false, true_and, and_true, cond_true, sm0, sm1, sm1l, sm2, lc_lt, lc_gt, lc_eq, Int.toNat_natCast, Int.reduceToNat, Nat.reduceAdd, Nat.reduceEqDiff, Int.reduceLT, Int.reduceEq, Int.reduceNeg, Int.reduceAdd, Int.reduceMul, Nat.reduceMul, ms_n, ms_i, ms_l, ms_p, PX]
  split
  · refine At.blk rfl rfl rfl fun sx => ?_
    simp (decide := true) only [RR, ms_app, toList_some, toList_none, if_true, if_false, true_and, and_true, cond_true, sm0, sm1, sm1l, sm2, lc_lt, lc_gt, lc_eq, Int.toNat_natCast, Int.reduceToNat, Nat.reduceAdd, Nat.reduceEqDiff, Int.reduceLT, Int.reduceEq, Int.reduceNeg, Int.reduceAdd, Int.reduceMul, Nat.reduceMul, ms_n, ms_i, ms_l, ms_p, PX]
    rw [w64_small (by omega) (by omega)]
    refine nine _ ?_
    unfold joinC
    rw [if_pos (by omega)]
  · split
    · refine At.blk rfl rfl rfl fun sx => ?_
      simp (decide := true) only [RR, ms_app, toList_some, toList_none, if_true, if_false, true_and, and_true, cond_true, sm0, sm1, sm1l, sm2, lc_lt, lc_gt, lc_eq, Int.toNat_natCast, Int.reduceToNat, Nat.reduceAdd, Nat.reduceEqDiff, Int.reduceLT, Int.reduceEq, Int.reduceNeg, Int.reduceAdd, Int.reduceMul, Nat.reduceMul, ms_n, ms_i, ms_l, ms_p, PX]
      rw [w64_small (by omega) (by omega)]
      refine nine _ ?_
      unfold joinC
      rw [if_neg (by omega), if_pos (by omega)]
    · split
      · refine At.blk rfl rfl rfl fun sx => ?_
        simp (decide := true) only [RR, ms_app, toList_some, toList_none, if_true, if_false, true_and, and_true, cond_true, sm0, sm1, sm1l, sm2, lc_lt, lc_gt, lc_eq, Int.toNat_natCast, Int.reduceToNat, Nat.reduceAdd, Nat.reduceEqDiff, Int.reduceLT, Int.reduceEq, Int.reduceNeg, Int.reduceAdd, Int.reduceMul, Nat.reduceMul, ms_n, ms_i, ms_l, ms_p, PX]
        rw [w64_small (by omega) (by omega)]
        refine nine _ ?_
        unfold joinC
        rw [if_neg (by omega), if_neg (by omega), if_pos (by omega)]
      · split
        · have e : joinC (k - 11) a b = flo a b := by
            unfold joinC
            rw [if_neg (by omega), if_neg (by omega), if_neg (by omega), if_pos (by omega)]
          have six : At (d + 1) 103 6 [some (.inl k), some (.inl a), some (.inl b), some (.inr (.inl 0)), none] [.inr (.inl (flo a b))] σ K := by
            refine At.blk rfl rfl rfl fun sx => ?_
            simp (decide := true) only [RR, ms_app, toList_some, toList_none, if_true, if_false, true_and, and_true, cond_true, sm0, sm1, sm1l, sm2, lc_lt, lc_gt, lc_eq, Int.toNat_natCast, Int.reduceToNat, Nat.reduceAdd, Nat.reduceEqDiff, Int.reduceLT, Int.reduceEq, Int.reduceNeg, Int.reduceAdd, Int.reduceMul, Nat.reduceMul, ms_n, ms_i, ms_l, ms_p, PX]
            refine nine _ ?_
            rw [e, clip_id (flo_le ha)]
          refine At.blk rfl rfl rfl fun sx => ?_
          simp (decide := true) only [RR, ms_app, toList_some, toList_none, if_true, if_false, true_and, and_true, cond_true, sm0, sm1, sm1l, sm2, lc_lt, lc_gt, lc_eq, Int.toNat_natCast, Int.reduceToNat, Nat.reduceAdd, Nat.reduceEqDiff, Int.reduceLT, Int.reduceEq, Int.reduceNeg, Int.reduceAdd, Int.reduceMul, Nat.reduceMul, ms_n, ms_i, ms_l, ms_p, PX]
          by_cases h0 : b = 0
          · rw [if_pos h0]
            rw [show flo a b = 0 by unfold flo; rw [if_pos h0]] at six
            exact six
          · rw [if_neg h0]
            refine At.blk rfl rfl rfl fun sx => ?_
            simp (decide := true) only [RR, ms_app, toList_some, toList_none, if_true, if_false, true_and, and_true, cond_true, sm0, sm1, sm1l, sm2, lc_lt, lc_gt, lc_eq, Int.toNat_natCast, Int.reduceToNat, Nat.reduceAdd, Nat.reduceEqDiff, Int.reduceLT, Int.reduceEq, Int.reduceNeg, Int.reduceAdd, Int.reduceMul, Nat.reduceMul, ms_n, ms_i, ms_l, ms_p, PX]
            refine cal_of rfl (x_floorDiv ha hb h0 ?_)
            simp (decide := true) only [RR, ms_app, toList_some, toList_none, if_true, if_false, true_and, and_true, cond_true, sm0, sm1, sm1l, sm2, lc_lt, lc_gt, lc_eq, Int.toNat_natCast, Int.reduceToNat, Nat.reduceAdd, Nat.reduceEqDiff, Int.reduceLT, Int.reduceEq, Int.reduceNeg, Int.reduceAdd, Int.reduceMul, Nat.reduceMul, ms_n, ms_i, ms_l, ms_p, PX]
            exact six
        · split
          · have e : joinC (k - 11) a b = if a < b then a else b := by
              unfold joinC
              rw [if_neg (by omega), if_neg (by omega), if_neg (by omega), if_neg (by omega), if_pos (by omega)]
            refine At.blk rfl rfl rfl fun sx => ?_
            simp (decide := true) only [RR, ms_app, toList_some, toList_none, if_true, if_false, true_and, and_true, cond_true, sm0, sm1, sm1l, sm2, lc_lt, lc_gt, lc_eq, Int.toNat_natCast, Int.reduceToNat, Nat.reduceAdd, Nat.reduceEqDiff, Int.reduceLT, Int.reduceEq, Int.reduceNeg, Int.reduceAdd, Int.reduceMul, Nat.reduceMul, ms_n, ms_i, ms_l, ms_p, PX]
            refine cal_of rfl (x_imin (fun hh => ?_) (fun hh => ?_))
            · simp (decide := true) only [RR, ms_app, toList_some, toList_none, if_true, if_false, true_and, and_true, cond_true, sm0, sm1, sm1l, sm2, lc_lt, lc_gt, lc_eq, Int.toNat_natCast, Int.reduceToNat, Nat.reduceAdd, Nat.reduceEqDiff, Int.reduceLT, Int.reduceEq, Int.reduceNeg, Int.reduceAdd, Int.reduceMul, Nat.reduceMul, ms_n, ms_i, ms_l, ms_p, PX]
              refine nine _ ?_
              rw [e, clip_id (by omega)]
              split <;> omega
            · simp (decide := true) only [RR, ms_app, toList_some, toList_none, if_true, if_false, true_and, and_true, cond_true, sm0, sm1, sm1l, sm2, lc_lt, lc_gt, lc_eq, Int.toNat_natCast, Int.reduceToNat, Nat.reduceAdd, Nat.reduceEqDiff, Int.reduceLT, Int.reduceEq, Int.reduceNeg, Int.reduceAdd, Int.reduceMul, Nat.reduceMul, ms_n, ms_i, ms_l, ms_p, PX]
              refine nine _ ?_
              rw [e, clip_id (by omega), if_neg (by omega)]
          · have e : joinC (k - 11) a b = if b < a then a else b := by
              unfold joinC
              rw [if_neg (by omega), if_neg (by omega), if_neg (by omega), if_neg (by omega), if_neg (by omega), if_pos (by omega)]
            refine At.blk rfl rfl rfl fun sx => ?_
            simp (decide := true) only [RR, ms_app, toList_some, toList_none, if_true, if_false, true_and, and_true, cond_true, sm0, sm1, sm1l, sm2, lc_lt, lc_gt, lc_eq, Int.toNat_natCast, Int.reduceToNat, Nat.reduceAdd, Nat.reduceEqDiff, Int.reduceLT, Int.reduceEq, Int.reduceNeg, Int.reduceAdd, Int.reduceMul, Nat.reduceMul, ms_n, ms_i, ms_l, ms_p, PX]
            refine cal_of rfl (x_imax (fun hh => ?_) (fun hh => ?_))
            · simp (decide := true) only [RR, ms_app, toList_some, toList_none, if_true, if_false, true_and, and_true, cond_true, sm0, sm1, sm1l, sm2, lc_lt, lc_gt, lc_eq, Int.toNat_natCast, Int.reduceToNat, Nat.reduceAdd, Nat.reduceEqDiff, Int.reduceLT, Int.reduceEq, Int.reduceNeg, Int.reduceAdd, Int.reduceMul, Nat.reduceMul, ms_n, ms_i, ms_l, ms_p, PX]
              refine nine _ ?_
              rw [e, clip_id (by omega)]
              split <;> omega
            · simp (decide := true) only [RR, ms_app, toList_some, toList_none, if_true, if_false, true_and, and_true, cond_true, sm0, sm1, sm1l, sm2, lc_lt, lc_gt, lc_eq, Int.toNat_natCast, Int.reduceToNat, Nat.reduceAdd, Nat.reduceEqDiff, Int.reduceLT, Int.reduceEq, Int.reduceNeg, Int.reduceAdd, Int.reduceMul, Nat.reduceMul, ms_n, ms_i, ms_l, ms_p, PX]
              refine nine _ ?_
              rw [e, clip_id (by omega), if_neg (by omega)]
theorem x_compared {k a b : Int} (hk : 18 ≤ k ∧ k ≤ 22) (hab : 21 ≤ k → (a = 0 ∨ a = 1) ∧ (b = 0 ∨ b = 1)) (hK : K (some (.inl (joinC (k - 11) a b))) σ) : Mt (d + 1) 104 [.inl k, .inl a, .inl b] σ K := by
  refine Mt.go (lv := [some (.inl k), some (.inl a), some (.inl b)]) rfl rfl rfl ?_
  unfold joinC at hK
  rw [if_neg (by omega), if_neg (by omega), if_neg (by omega), if_neg (by omega), if_neg (by omega), if_neg (by omega)] at hK
  refine At.blk rfl rfl rfl fun sx => ?_
  simp (decide := true) only [RR, ms_app, toList_some, toList_none, if_true, if_false, true_and, and_true, cond_true, sm0, sm1, sm1l, sm2, lc_lt, lc_gt, lc_eq, Int.toNat_natCast, Int.reduceToNat, Nat.reduceAdd, Nat.reduceEqDiff, Int.reduceLT, Int.reduceEq, Int.reduceNeg, Int.reduceAdd, Int.reduceMul, Nat.reduceMul, ms_n, ms_i, ms_l, ms_p, PX]
  split
  · rw [if_pos (by omega)] at hK
    refine At.blk rfl rfl rfl fun sx => ?_
    simp (decide := true) only [RR, ms_app, toList_some, toList_none, if_true, if_false, true_and, and_true, cond_true, sm0, sm1, sm1l, sm2, lc_lt, lc_gt, lc_eq, Int.toNat_natCast, Int.reduceToNat, Nat.reduceAdd, Nat.reduceEqDiff, Int.reduceLT, Int.reduceEq, Int.reduceNeg, Int.reduceAdd, Int.reduceMul, Nat.reduceMul, ms_n, ms_i, ms_l, ms_p, PX]
    by_cases c : a < b
    · rw [if_pos c] at hK
      rw [if_pos c]
      refine At.blk rfl rfl rfl fun sx => ?_
      simp (decide := true) only [RR, ms_app, toList_some, toList_none, if_true, if_false, true_and, and_true, cond_true, sm0, sm1, sm1l, sm2, lc_lt, lc_gt, lc_eq, Int.toNat_natCast, Int.reduceToNat, Nat.reduceAdd, Nat.reduceEqDiff, Int.reduceLT, Int.reduceEq, Int.reduceNeg, Int.reduceAdd, Int.reduceMul, Nat.reduceMul, ms_n, ms_i, ms_l, ms_p, PX]
      exact hK
    · rw [if_neg c] at hK
      rw [if_neg c]
      refine At.blk rfl rfl rfl fun sx => ?_
      simp (decide := true) only [RR, ms_app, toList_some, toList_none, if_true, if_false, true_and, and_true, cond_true, sm0, sm1, sm1l, sm2, lc_lt, lc_gt, lc_eq, Int.toNat_natCast, Int.reduceToNat, Nat.reduceAdd, Nat.reduceEqDiff, Int.reduceLT, Int.reduceEq, Int.reduceNeg, Int.reduceAdd, Int.reduceMul, Nat.reduceMul, ms_n, ms_i, ms_l, ms_p, PX]
      refine At.blk rfl rfl rfl fun sx => ?_
      simp (decide := true) only [RR, ms_app, toList_some, toList_none, if_true, if_false, true_and, and_true, cond_true, sm0, sm1, sm1l, sm2, lc_lt, lc_gt, lc_eq, Int.toNat_natCast, Int.reduceToNat, Nat.reduceAdd, Nat.reduceEqDiff, Int.reduceLT, Int.reduceEq, Int.reduceNeg, Int.reduceAdd, Int.reduceMul, Nat.reduceMul, ms_n, ms_i, ms_l, ms_p, PX]
      exact hK
  · rw [if_neg (by omega)] at hK
    split
    · rw [if_pos (by omega)] at hK
      refine At.blk rfl rfl rfl fun sx => ?_
      simp (decide := true) only [RR, ms_app, toList_some, toList_none, if_true, if_false, true_and, and_true, cond_true, sm0, sm1, sm1l, sm2, lc_lt, lc_gt, lc_eq, Int.toNat_natCast, Int.reduceToNat, Nat.reduceAdd, Nat.reduceEqDiff, Int.reduceLT, Int.reduceEq, Int.reduceNeg, Int.reduceAdd, Int.reduceMul, Nat.reduceMul, ms_n, ms_i, ms_l, ms_p, PX]
      by_cases c : b < a
      · rw [if_pos c] at hK
        rw [if_pos c]
        refine At.blk rfl rfl rfl fun sx => ?_
        simp (decide := true) only [RR, ms_app, toList_some, toList_none, if_true, if_false, true_and, and_true, cond_true, sm0, sm1, sm1l, sm2, lc_lt, lc_gt, lc_eq, Int.toNat_natCast, Int.reduceToNat, Nat.reduceAdd, Nat.reduceEqDiff, Int.reduceLT, Int.reduceEq, Int.reduceNeg, Int.reduceAdd, Int.reduceMul, Nat.reduceMul, ms_n, ms_i, ms_l, ms_p, PX]
        exact hK
      · rw [if_neg c] at hK
        rw [if_neg c]
        refine At.blk rfl rfl rfl fun sx => ?_
        simp (decide := true) only [RR, ms_app, toList_some, toList_none, if_true, if_false, true_and, and_true, cond_true, sm0, sm1, sm1l, sm2, lc_lt, lc_gt, lc_eq, Int.toNat_natCast, Int.reduceToNat, Nat.reduceAdd, Nat.reduceEqDiff, Int.reduceLT, Int.reduceEq, Int.reduceNeg, Int.reduceAdd, Int.reduceMul, Nat.reduceMul, ms_n, ms_i, ms_l, ms_p, PX]
        refine At.blk rfl rfl rfl fun sx => ?_
        simp (decide := true) only [RR, ms_app, toList_some, toList_none, if_true, if_false, true_and, and_true, cond_true, sm0, sm1, sm1l, sm2, lc_lt, lc_gt, lc_eq, Int.toNat_natCast, Int.reduceToNat, Nat.reduceAdd, Nat.reduceEqDiff, Int.reduceLT, Int.reduceEq, Int.reduceNeg, Int.reduceAdd, Int.reduceMul, Nat.reduceMul, ms_n, ms_i, ms_l, ms_p, PX]
        exact hK
    · rw [if_neg (by omega)] at hK
      split
      · rw [if_pos (by omega)] at hK
        refine At.blk rfl rfl rfl fun sx => ?_
        simp (decide := true) only [RR, ms_app, toList_some, toList_none, if_true, if_false, true_and, and_true, cond_true, sm0, sm1, sm1l, sm2, lc_lt, lc_gt, lc_eq, Int.toNat_natCast, Int.reduceToNat, Nat.reduceAdd, Nat.reduceEqDiff, Int.reduceLT, Int.reduceEq, Int.reduceNeg, Int.reduceAdd, Int.reduceMul, Nat.reduceMul, ms_n, ms_i, ms_l, ms_p, PX]
        by_cases c : a = b
        · rw [if_pos c] at hK
          rw [if_pos c]
          refine At.blk rfl rfl rfl fun sx => ?_
          simp (decide := true) only [RR, ms_app, toList_some, toList_none, if_true, if_false, true_and, and_true, cond_true, sm0, sm1, sm1l, sm2, lc_lt, lc_gt, lc_eq, Int.toNat_natCast, Int.reduceToNat, Nat.reduceAdd, Nat.reduceEqDiff, Int.reduceLT, Int.reduceEq, Int.reduceNeg, Int.reduceAdd, Int.reduceMul, Nat.reduceMul, ms_n, ms_i, ms_l, ms_p, PX]
          exact hK
        · rw [if_neg c] at hK
          rw [if_neg c]
          refine At.blk rfl rfl rfl fun sx => ?_
          simp (decide := true) only [RR, ms_app, toList_some, toList_none, if_true, if_false, true_and, and_true, cond_true, sm0, sm1, sm1l, sm2, lc_lt, lc_gt, lc_eq, Int.toNat_natCast, Int.reduceToNat, Nat.reduceAdd, Nat.reduceEqDiff, Int.reduceLT, Int.reduceEq, Int.reduceNeg, Int.reduceAdd, Int.reduceMul, Nat.reduceMul, ms_n, ms_i, ms_l, ms_p, PX]
          refine At.blk rfl rfl rfl fun sx => ?_
          simp (decide := true) only [RR, ms_app, toList_some, toList_none, if_true, if_false, true_and, and_true, cond_true, sm0, sm1, sm1l, sm2, lc_lt, lc_gt, lc_eq, Int.toNat_natCast, Int.reduceToNat, Nat.reduceAdd, Nat.reduceEqDiff, Int.reduceLT, Int.reduceEq, Int.reduceNeg, Int.reduceAdd, Int.reduceMul, Nat.reduceMul, ms_n, ms_i, ms_l, ms_p, PX]
          exact hK
      · rw [if_neg (by omega)] at hK
        obtain ⟨h1, h2⟩ := hab (by omega)
        split
        · rw [if_pos (by omega)] at hK
          refine At.blk rfl rfl rfl fun sx => ?_
          simp (decide := true) only [RR, ms_app, toList_some, toList_none, if_true, if_false, true_and, and_true, cond_true, sm0, sm1, sm1l, sm2, lc_lt, lc_gt, lc_eq, Int.toNat_natCast, Int.reduceToNat, Nat.reduceAdd, Nat.reduceEqDiff, Int.reduceLT, Int.reduceEq, Int.reduceNeg, Int.reduceAdd, Int.reduceMul, Nat.reduceMul, ms_n, ms_i, ms_l, ms_p, PX]
          rw [show i_and a b = a * b by rcases h1 with rfl | rfl <;> rcases h2 with rfl | rfl <;> decide]
          exact hK
        · rw [if_neg (by omega)] at hK
          refine At.blk rfl rfl rfl fun sx => ?_
          simp (decide := true) only [RR, ms_app, toList_some, toList_none, if_true, if_false, true_and, and_true, cond_true, sm0, sm1, sm1l, sm2, lc_lt, lc_gt, lc_eq, Int.toNat_natCast, Int.reduceToNat, Nat.reduceAdd, Nat.reduceEqDiff, Int.reduceLT, Int.reduceEq, Int.reduceNeg, Int.reduceAdd, Int.reduceMul, Nat.reduceMul, ms_n, ms_i, ms_l, ms_p, PX]
          rw [show i_or a b = (if 0 < a + b then 1 else 0) by rcases h1 with rfl | rfl <;> rcases h2 with rfl | rfl <;> decide]
          exact hK
theorem x_fresh28 {k : Int} {p : Nat} (hF : Fix σ) (hp : p < 7) (hk : 1 ≤ k ∧ k ≤ 9)
    (h1 : k = 1 → K (some (.inl (σ 29 p))) σ) (h2 : k = 2 → K (some (.inl (σ 23 p))) σ) (h3 : k = 3 → K (some (.inl (σ 24 p))) σ) (h4 : k = 4 → K (some (.inl (σ 28 2))) σ) (h5 : k = 5 → K (some (.inl (σ 21 4))) σ) (h6 : k = 6 → K (some (.inl (σ 26 p))) σ) (h7 : k = 7 → K (some (.inl (p : Int))) σ)
    (h8 : k = 8 → K (some (.inl (i_and (i_shr (σ 28 3) (p : Int)) 1))) σ) (h9 : k = 9 → K (some (.inl (i_and (i_shr (σ 28 4) (p : Int)) 1))) σ) : Mt (d + 1) 101 [.inr (.inr 21), .inl k, .inl (p : Int), .inr (.inr 28)] σ K := by
  refine Mt.go (lv := [some (.inr (.inr 21)), some (.inl k), some (.inl (p : Int)), some (.inr (.inr 28))]) rfl rfl rfl ?_
  repeat' (first | (exact h1 (by omega)) | (exact h2 (by omega)) | (exact h3 (by omega)) | (exact h4 (by omega)) | (exact h5 (by omega)) | (exact h6 (by omega)) | (exact h7 (by omega)) | (exact h8 (by omega)) | (exact h9 (by omega)) | (refine ⟨⟨by omega, by omega⟩, ?_⟩) | split | (refine At.blk rfl rfl rfl fun sx => ?_; simp (decide := true) only [RR, ms_app, toList_some, toList_none, if_true, if_false, true_and, and_true, cond_true, sm0, sm1, sm1l, sm2, lc_lt, lc_gt, lc_eq, Int.toNat_natCast, Int.reduceToNat, Nat.reduceAdd, Nat.reduceEqDiff, Int.reduceLT, Int.reduceEq, Int.reduceNeg, Int.reduceAdd, Int.reduceMul, Nat.reduceMul, ms_n, ms_i, ms_l, ms_p, PX, fxX hF]))
theorem x_fresh34 {k : Int} {p : Nat} (hF : Fix σ) (hp : p < 7) (hk : 1 ≤ k ∧ k ≤ 9)
    (h1 : k = 1 → K (some (.inl (σ 35 p))) σ) (h2 : k = 2 → K (some (.inl (σ 23 p))) σ) (h3 : k = 3 → K (some (.inl (σ 24 p))) σ) (h4 : k = 4 → K (some (.inl (σ 34 2))) σ) (h5 : k = 5 → K (some (.inl (σ 21 4))) σ) (h6 : k = 6 → K (some (.inl (σ 26 p))) σ) (h7 : k = 7 → K (some (.inl (p : Int))) σ)
    (h8 : k = 8 → K (some (.inl (i_and (i_shr (σ 34 3) (p : Int)) 1))) σ) (h9 : k = 9 → K (some (.inl (i_and (i_shr (σ 34 4) (p : Int)) 1))) σ) : Mt (d + 1) 101 [.inr (.inr 21), .inl k, .inl (p : Int), .inr (.inr 34)] σ K := by
  refine Mt.go (lv := [some (.inr (.inr 21)), some (.inl k), some (.inl (p : Int)), some (.inr (.inr 34))]) rfl rfl rfl ?_
  repeat' (first | (exact h1 (by omega)) | (exact h2 (by omega)) | (exact h3 (by omega)) | (exact h4 (by omega)) | (exact h5 (by omega)) | (exact h6 (by omega)) | (exact h7 (by omega)) | (exact h8 (by omega)) | (exact h9 (by omega)) | (refine ⟨⟨by omega, by omega⟩, ?_⟩) | split | (refine At.blk rfl rfl rfl fun sx => ?_; simp (decide := true) only [RR, ms_app, toList_some, toList_none, if_true, if_false, true_and, and_true, cond_true, sm0, sm1, sm1l, sm2, lc_lt, lc_gt, lc_eq, Int.toNat_natCast, Int.reduceToNat, Nat.reduceAdd, Nat.reduceEqDiff, Int.reduceLT, Int.reduceEq, Int.reduceNeg, Int.reduceAdd, Int.reduceMul, Nat.reduceMul, ms_n, ms_i, ms_l, ms_p, PX, fxX hF]))
theorem x_changed10 {C : Ct} {v : Int} {p : Nat} (hF : Fix σ) (hn : σ 3 4 = (C.1 : Int)) (hn7 : C.1 ≤ 7) (hp : p < C.1) (he : σ 6 p = C.2.2.1 p) (hv : 0 ≤ C.2.2.1 p ∧ C.2.2.1 p < 128) (hK : K (some (.inl (nearV C p v))) σ) : Mt (d + 2) 102 [.inr (.inr 21), .inl 10, .inl v, .inl (p : Int)] σ K := by
  refine Mt.go (lv := [some (.inr (.inr 21)), some (.inl 10), some (.inl v), some (.inl (p : Int))]) rfl rfl rfl ?_
  unfold nearV at hK
  refine At.blk rfl rfl rfl fun sx => ?_
  simp (decide := true) only [RR, ms_app, toList_some, toList_none, if_true, if_false, true_and, and_true, cond_true, sm0, sm1, sm1l, sm2, lc_lt, lc_gt, lc_eq, Int.toNat_natCast, Int.reduceToNat, Nat.reduceAdd, Nat.reduceEqDiff, Int.reduceLT, Int.reduceEq, Int.reduceNeg, Int.reduceAdd, Int.reduceMul, Nat.reduceMul, ms_n, ms_i, ms_l, ms_p, PX, fxX hF]
  refine cal_of rfl (x_holds3 (fun hh => ?_) (fun hh => ?_))
  · rw [hn] at hh
    rw [if_pos hh] at hK
    simp (decide := true) only [RR, ms_app, toList_some, toList_none, if_true, if_false, true_and, and_true, cond_true, sm0, sm1, sm1l, sm2, lc_lt, lc_gt, lc_eq, Int.toNat_natCast, Int.reduceToNat, Nat.reduceAdd, Nat.reduceEqDiff, Int.reduceLT, Int.reduceEq, Int.reduceNeg, Int.reduceAdd, Int.reduceMul, Nat.reduceMul, ms_n, ms_i, ms_l, ms_p, PX, fxX hF, he]
    rw [i_bit hv.1 (by omega) (by omega)]
    refine ⟨⟨by omega, by omega⟩, ?_⟩
    refine At.blk rfl rfl rfl fun sx => ?_
    simp (decide := true) only [RR, ms_app, toList_some, toList_none, if_true, if_false, true_and, and_true, cond_true, sm0, sm1, sm1l, sm2, lc_lt, lc_gt, lc_eq, Int.toNat_natCast, Int.reduceToNat, Nat.reduceAdd, Nat.reduceEqDiff, Int.reduceLT, Int.reduceEq, Int.reduceNeg, Int.reduceAdd, Int.reduceMul, Nat.reduceMul, ms_n, ms_i, ms_l, ms_p, PX]
    exact hK
  · rw [hn] at hh
    rw [if_neg hh] at hK
    simp (decide := true) only [RR, ms_app, toList_some, toList_none, if_true, if_false, true_and, and_true, cond_true, sm0, sm1, sm1l, sm2, lc_lt, lc_gt, lc_eq, Int.toNat_natCast, Int.reduceToNat, Nat.reduceAdd, Nat.reduceEqDiff, Int.reduceLT, Int.reduceEq, Int.reduceNeg, Int.reduceAdd, Int.reduceMul, Nat.reduceMul, ms_n, ms_i, ms_l, ms_p, PX]
    refine At.blk rfl rfl rfl fun sx => ?_
    simp (decide := true) only [RR, ms_app, toList_some, toList_none, if_true, if_false, true_and, and_true, cond_true, sm0, sm1, sm1l, sm2, lc_lt, lc_gt, lc_eq, Int.toNat_natCast, Int.reduceToNat, Nat.reduceAdd, Nat.reduceEqDiff, Int.reduceLT, Int.reduceEq, Int.reduceNeg, Int.reduceAdd, Int.reduceMul, Nat.reduceMul, ms_n, ms_i, ms_l, ms_p, PX]
    refine At.blk rfl rfl rfl fun sx => ?_
    simp (decide := true) only [RR, ms_app, toList_some, toList_none, if_true, if_false, true_and, and_true, cond_true, sm0, sm1, sm1l, sm2, lc_lt, lc_gt, lc_eq, Int.toNat_natCast, Int.reduceToNat, Nat.reduceAdd, Nat.reduceEqDiff, Int.reduceLT, Int.reduceEq, Int.reduceNeg, Int.reduceAdd, Int.reduceMul, Nat.reduceMul, ms_n, ms_i, ms_l, ms_p, PX]
    exact hK
theorem x_changed11 {v : Int} {p : Nat} (hv : v = 0 ∨ v = 1) (hK : K (some (.inl (1 - v))) σ) : Mt (d + 1) 102 [.inr (.inr 21), .inl 11, .inl v, .inl (p : Int)] σ K := by
  refine Mt.go (lv := [some (.inr (.inr 21)), some (.inl 11), some (.inl v), some (.inl (p : Int))]) rfl rfl rfl ?_
  refine At.blk rfl rfl rfl fun sx => ?_
  simp (decide := true) only [RR, ms_app, toList_some, toList_none, if_true, if_false, true_and, and_true, cond_true, sm0, sm1, sm1l, sm2, lc_lt, lc_gt, lc_eq, Int.toNat_natCast, Int.reduceToNat, Nat.reduceAdd, Nat.reduceEqDiff, Int.reduceLT, Int.reduceEq, Int.reduceNeg, Int.reduceAdd, Int.reduceMul, Nat.reduceMul, ms_n, ms_i, ms_l, ms_p, PX]
  refine At.blk rfl rfl rfl fun sx => ?_
  simp (decide := true) only [RR, ms_app, toList_some, toList_none, if_true, if_false, true_and, and_true, cond_true, sm0, sm1, sm1l, sm2, lc_lt, lc_gt, lc_eq, Int.toNat_natCast, Int.reduceToNat, Nat.reduceAdd, Nat.reduceEqDiff, Int.reduceLT, Int.reduceEq, Int.reduceNeg, Int.reduceAdd, Int.reduceMul, Nat.reduceMul, ms_n, ms_i, ms_l, ms_p, PX]
  rcases hv with rfl | rfl
  · rw [if_pos rfl]
    refine At.blk rfl rfl rfl fun sx => ?_
    simp (decide := true) only [RR, ms_app, toList_some, toList_none, if_true, if_false, true_and, and_true, cond_true, sm0, sm1, sm1l, sm2, lc_lt, lc_gt, lc_eq, Int.toNat_natCast, Int.reduceToNat, Nat.reduceAdd, Nat.reduceEqDiff, Int.reduceLT, Int.reduceEq, Int.reduceNeg, Int.reduceAdd, Int.reduceMul, Nat.reduceMul, ms_n, ms_i, ms_l, ms_p, PX]
    exact hK
  · rw [if_neg (by decide)]
    refine At.blk rfl rfl rfl fun sx => ?_
    simp (decide := true) only [RR, ms_app, toList_some, toList_none, if_true, if_false, true_and, and_true, cond_true, sm0, sm1, sm1l, sm2, lc_lt, lc_gt, lc_eq, Int.toNat_natCast, Int.reduceToNat, Nat.reduceAdd, Nat.reduceEqDiff, Int.reduceLT, Int.reduceEq, Int.reduceNeg, Int.reduceAdd, Int.reduceMul, Nat.reduceMul, ms_n, ms_i, ms_l, ms_p, PX]
    refine At.blk rfl rfl rfl fun sx => ?_
    simp (decide := true) only [RR, ms_app, toList_some, toList_none, if_true, if_false, true_and, and_true, cond_true, sm0, sm1, sm1l, sm2, lc_lt, lc_gt, lc_eq, Int.toNat_natCast, Int.reduceToNat, Nat.reduceAdd, Nat.reduceEqDiff, Int.reduceLT, Int.reduceEq, Int.reduceNeg, Int.reduceAdd, Int.reduceMul, Nat.reduceMul, ms_n, ms_i, ms_l, ms_p, PX]
    exact hK
end
