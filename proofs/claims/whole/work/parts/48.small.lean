/-! small methods -/
section
variable {d : Nat} {σ : mM} {K : Option mV → mM → Prop}
theorem x_holds3 {a : Int} (h1 : 0 ≤ a ∧ a < σ 3 4 → K (some (.inl 1)) σ) (h0 : ¬(0 ≤ a ∧ a < σ 3 4) → K (some (.inl 0)) σ) : Mt (d + 1) 3 [.inr (.inr 3), .inl a] σ K := by
  refine Mt.go (lv := [some (.inr (.inr 3)), some (.inl a)]) rfl rfl rfl ?_
  repeat' (first | (exact h1 (by omega)) | (exact h0 (by omega)) | (refine ⟨⟨by omega, by omega⟩, ?_⟩) | split | (refine At.blk rfl rfl rfl fun sx => ?_; simp (decide := true) only [RR, ms_app, toList_some, toList_none, if_true, if_false, true_and, and_true, cond_true, sm0, sm1, sm1l, sm2, lc_lt, lc_gt, lc_eq, Int.toNat_natCast, Int.reduceToNat, Nat.reduceAdd, Nat.reduceEqDiff, Int.reduceLT, Int.reduceEq, Int.reduceNeg, Int.reduceAdd, Int.reduceMul, Nat.reduceMul, ms_n, ms_i, ms_l, ms_p, PX]))
theorem x_holds11 {a : Int} (h1 : 0 ≤ a ∧ a < σ 11 4 → K (some (.inl 1)) σ) (h0 : ¬(0 ≤ a ∧ a < σ 11 4) → K (some (.inl 0)) σ) : Mt (d + 1) 3 [.inr (.inr 11), .inl a] σ K := by
  refine Mt.go (lv := [some (.inr (.inr 11)), some (.inl a)]) rfl rfl rfl ?_
  repeat' (first | (exact h1 (by omega)) | (exact h0 (by omega)) | (refine ⟨⟨by omega, by omega⟩, ?_⟩) | split | (refine At.blk rfl rfl rfl fun sx => ?_; simp (decide := true) only [RR, ms_app, toList_some, toList_none, if_true, if_false, true_and, and_true, cond_true, sm0, sm1, sm1l, sm2, lc_lt, lc_gt, lc_eq, Int.toNat_natCast, Int.reduceToNat, Nat.reduceAdd, Nat.reduceEqDiff, Int.reduceLT, Int.reduceEq, Int.reduceNeg, Int.reduceAdd, Int.reduceMul, Nat.reduceMul, ms_n, ms_i, ms_l, ms_p, PX]))
theorem m_partMany (hF : Fix σ) (hK : K (some (.inl (σ 173 2))) σ) : Mt (d + 1) 178 [.inr (.inr 146)] σ K := by
  refine Mt.go (lv := [some (.inr (.inr 146))]) rfl rfl rfl ?_
  refine At.blk rfl rfl rfl fun sx => ?_
  simp (decide := true) only [RR, ms_app, toList_some, toList_none, if_true, if_false, true_and, and_true, cond_true, sm0, sm1, sm1l, sm2, lc_lt, lc_gt, lc_eq, Int.toNat_natCast, Int.reduceToNat, Nat.reduceAdd, Nat.reduceEqDiff, Int.reduceLT, Int.reduceEq, Int.reduceNeg, Int.reduceAdd, Int.reduceMul, Nat.reduceMul, ms_n, ms_i, ms_l, ms_p, PM, fxM hF]
  exact hK
theorem m_isPart {a : Int} (hF : Fix σ) (hn : 0 ≤ σ 173 2 ∧ σ 173 2 ≤ 7) (h1 : 0 ≤ a ∧ a < σ 173 2 → K (some (.inl 1)) σ) (h0 : ¬(0 ≤ a ∧ a < σ 173 2) → K (some (.inl 0)) σ) : Mt (d + 2) 179 [.inr (.inr 146), .inr (.inl a)] σ K := by
  refine Mt.go (lv := [some (.inr (.inr 146)), some (.inr (.inl a)), none]) rfl rfl rfl ?_
  refine At.blk rfl rfl rfl fun sx => ?_
  simp (decide := true) only [RR, ms_app, toList_some, toList_none, if_true, if_false, true_and, and_true, cond_true, sm0, sm1, sm1l, sm2, lc_lt, lc_gt, lc_eq, Int.toNat_natCast, Int.reduceToNat, Nat.reduceAdd, Nat.reduceEqDiff, Int.reduceLT, Int.reduceEq, Int.reduceNeg, Int.reduceAdd, Int.reduceMul, Nat.reduceMul, ms_n, ms_i, ms_l, ms_p, PM, fxM hF]
  refine cal_of rfl (m_partMany hF ?_)
  simp (decide := true) only [RR, ms_app, toList_some, toList_none, if_true, if_false, true_and, and_true, cond_true, sm0, sm1, sm1l, sm2, lc_lt, lc_gt, lc_eq, Int.toNat_natCast, Int.reduceToNat, Nat.reduceAdd, Nat.reduceEqDiff, Int.reduceLT, Int.reduceEq, Int.reduceNeg, Int.reduceAdd, Int.reduceMul, Nat.reduceMul, ms_n, ms_i, ms_l, ms_p, PM]
  refine cal_of rfl (m_isIn ?_)
  rw [w32_small (by omega) (by omega)]
  split
  · simp (decide := true) only [RR, ms_app, toList_some, toList_none, if_true, if_false, true_and, and_true, cond_true, sm0, sm1, sm1l, sm2, lc_lt, lc_gt, lc_eq, Int.toNat_natCast, Int.reduceToNat, Nat.reduceAdd, Nat.reduceEqDiff, Int.reduceLT, Int.reduceEq, Int.reduceNeg, Int.reduceAdd, Int.reduceMul, Nat.reduceMul, ms_n, ms_i, ms_l, ms_p, PM]
    exact h1 (by omega)
  · simp (decide := true) only [RR, ms_app, toList_some, toList_none, if_true, if_false, true_and, and_true, cond_true, sm0, sm1, sm1l, sm2, lc_lt, lc_gt, lc_eq, Int.toNat_natCast, Int.reduceToNat, Nat.reduceAdd, Nat.reduceEqDiff, Int.reduceLT, Int.reduceEq, Int.reduceNeg, Int.reduceAdd, Int.reduceMul, Nat.reduceMul, ms_n, ms_i, ms_l, ms_p, PM]
    exact h0 (by omega)
theorem m_airOf {a : Int} (hF : Fix σ) (ha : 0 ≤ a ∧ a < 7) (hK : K (some (.inl (σ 182 (1 + 4 * a.toNat)))) σ) : Mt (d + 1) 180 [.inr (.inr 146), .inl a] σ K := by
  refine Mt.go (lv := [some (.inr (.inr 146)), some (.inl a)]) rfl rfl rfl ?_
  refine At.blk rfl rfl rfl fun sx => ?_
  simp (decide := true) only [RR, ms_app, toList_some, toList_none, if_true, if_false, true_and, and_true, cond_true, sm0, sm1, sm1l, sm2, lc_lt, lc_gt, lc_eq, Int.toNat_natCast, Int.reduceToNat, Nat.reduceAdd, Nat.reduceEqDiff, Int.reduceLT, Int.reduceEq, Int.reduceNeg, Int.reduceAdd, Int.reduceMul, Nat.reduceMul, ms_n, ms_i, ms_l, ms_p, PM, fxM hF]
  rw [w32_small (x := 4 * a) (by omega) (by omega), w32_small (by omega) (by omega), show (1 + 4 * a).toNat = 1 + 4 * a.toNat by omega]
  exact ⟨by omega, hK⟩
theorem m_actOf {a : Int} (hF : Fix σ) (ha : 0 ≤ a ∧ a < 7) (hK : K (some (.inl (σ 182 (4 + 4 * a.toNat)))) σ) : Mt (d + 1) 183 [.inr (.inr 146), .inl a] σ K := by
  refine Mt.go (lv := [some (.inr (.inr 146)), some (.inl a)]) rfl rfl rfl ?_
  refine At.blk rfl rfl rfl fun sx => ?_
  simp (decide := true) only [RR, ms_app, toList_some, toList_none, if_true, if_false, true_and, and_true, cond_true, sm0, sm1, sm1l, sm2, lc_lt, lc_gt, lc_eq, Int.toNat_natCast, Int.reduceToNat, Nat.reduceAdd, Nat.reduceEqDiff, Int.reduceLT, Int.reduceEq, Int.reduceNeg, Int.reduceAdd, Int.reduceMul, Nat.reduceMul, ms_n, ms_i, ms_l, ms_p, PM, fxM hF]
  rw [w32_small (x := 4 * a) (by omega) (by omega), w32_small (by omega) (by omega), show (4 + 4 * a).toNat = 4 + 4 * a.toNat by omega]
  exact ⟨by omega, hK⟩
theorem m_hasAunt {a : Int} (hF : Fix σ) (ha : 0 ≤ a ∧ a < 7) (h1 : σ 182 (2 + 4 * a.toNat) = 1 → K (some (.inl 1)) σ) (h0 : σ 182 (2 + 4 * a.toNat) ≠ 1 → K (some (.inl 0)) σ) : Mt (d + 1) 181 [.inr (.inr 146), .inl a] σ K := by
  refine Mt.go (lv := [some (.inr (.inr 146)), some (.inl a)]) rfl rfl rfl ?_
  refine At.blk rfl rfl rfl fun sx => ?_
  simp (decide := true) only [RR, ms_app, toList_some, toList_none, if_true, if_false, true_and, and_true, cond_true, sm0, sm1, sm1l, sm2, lc_lt, lc_gt, lc_eq, Int.toNat_natCast, Int.reduceToNat, Nat.reduceAdd, Nat.reduceEqDiff, Int.reduceLT, Int.reduceEq, Int.reduceNeg, Int.reduceAdd, Int.reduceMul, Nat.reduceMul, ms_n, ms_i, ms_l, ms_p, PM, fxM hF]
  rw [w32_small (x := 4 * a) (by omega) (by omega), w32_small (by omega) (by omega), show (2 + 4 * a).toNat = 2 + 4 * a.toNat by omega]
  refine ⟨by omega, ?_⟩
  repeat' (first | (exact h1 (by omega)) | (exact h0 (by omega)) | (refine ⟨⟨by omega, by omega⟩, ?_⟩) | split | (refine At.blk rfl rfl rfl fun sx => ?_; simp (decide := true) only [RR, ms_app, toList_some, toList_none, if_true, if_false, true_and, and_true, cond_true, sm0, sm1, sm1l, sm2, lc_lt, lc_gt, lc_eq, Int.toNat_natCast, Int.reduceToNat, Nat.reduceAdd, Nat.reduceEqDiff, Int.reduceLT, Int.reduceEq, Int.reduceNeg, Int.reduceAdd, Int.reduceMul, Nat.reduceMul, ms_n, ms_i, ms_l, ms_p, PM]))
theorem m_isDeaf {a : Int} (hF : Fix σ) (ha : 0 ≤ a ∧ a < 7) (h1 : σ 182 (3 + 4 * a.toNat) = 1 → K (some (.inl 1)) σ) (h0 : σ 182 (3 + 4 * a.toNat) ≠ 1 → K (some (.inl 0)) σ) : Mt (d + 1) 182 [.inr (.inr 146), .inl a] σ K := by
  refine Mt.go (lv := [some (.inr (.inr 146)), some (.inl a)]) rfl rfl rfl ?_
  refine At.blk rfl rfl rfl fun sx => ?_
  simp (decide := true) only [RR, ms_app, toList_some, toList_none, if_true, if_false, true_and, and_true, cond_true, sm0, sm1, sm1l, sm2, lc_lt, lc_gt, lc_eq, Int.toNat_natCast, Int.reduceToNat, Nat.reduceAdd, Nat.reduceEqDiff, Int.reduceLT, Int.reduceEq, Int.reduceNeg, Int.reduceAdd, Int.reduceMul, Nat.reduceMul, ms_n, ms_i, ms_l, ms_p, PM, fxM hF]
  rw [w32_small (x := 4 * a) (by omega) (by omega), w32_small (by omega) (by omega), show (3 + 4 * a).toNat = 3 + 4 * a.toNat by omega]
  refine ⟨by omega, ?_⟩
  repeat' (first | (exact h1 (by omega)) | (exact h0 (by omega)) | (refine ⟨⟨by omega, by omega⟩, ?_⟩) | split | (refine At.blk rfl rfl rfl fun sx => ?_; simp (decide := true) only [RR, ms_app, toList_some, toList_none, if_true, if_false, true_and, and_true, cond_true, sm0, sm1, sm1l, sm2, lc_lt, lc_gt, lc_eq, Int.toNat_natCast, Int.reduceToNat, Nat.reduceAdd, Nat.reduceEqDiff, Int.reduceLT, Int.reduceEq, Int.reduceNeg, Int.reduceAdd, Int.reduceMul, Nat.reduceMul, ms_n, ms_i, ms_l, ms_p, PM]))
theorem m_isGale {a : Int} (hF : Fix σ) (ha : 0 ≤ a ∧ a < 7) (h1 : σ 178 2 ≤ σ 182 (1 + 4 * a.toNat) → K (some (.inl 1)) σ) (h0 : σ 182 (1 + 4 * a.toNat) < σ 178 2 → K (some (.inl 0)) σ) : Mt (d + 2) 186 [.inr (.inr 146), .inl a] σ K := by
  refine Mt.go (lv := [some (.inr (.inr 146)), some (.inl a)]) rfl rfl rfl ?_
  refine At.blk rfl rfl rfl fun sx => ?_
  simp (decide := true) only [RR, ms_app, toList_some, toList_none, if_true, if_false, true_and, and_true, cond_true, sm0, sm1, sm1l, sm2, lc_lt, lc_gt, lc_eq, Int.toNat_natCast, Int.reduceToNat, Nat.reduceAdd, Nat.reduceEqDiff, Int.reduceLT, Int.reduceEq, Int.reduceNeg, Int.reduceAdd, Int.reduceMul, Nat.reduceMul, ms_n, ms_i, ms_l, ms_p, PM, fxM hF]
  refine cal_of rfl (m_airOf hF ha ?_)
  simp (decide := true) only [RR, ms_app, toList_some, toList_none, if_true, if_false, true_and, and_true, cond_true, sm0, sm1, sm1l, sm2, lc_lt, lc_gt, lc_eq, Int.toNat_natCast, Int.reduceToNat, Nat.reduceAdd, Nat.reduceEqDiff, Int.reduceLT, Int.reduceEq, Int.reduceNeg, Int.reduceAdd, Int.reduceMul, Nat.reduceMul, ms_n, ms_i, ms_l, ms_p, PM, fxM hF]
  repeat' (first | (exact h1 (by omega)) | (exact h0 (by omega)) | (refine ⟨⟨by omega, by omega⟩, ?_⟩) | split | (refine At.blk rfl rfl rfl fun sx => ?_; simp (decide := true) only [RR, ms_app, toList_some, toList_none, if_true, if_false, true_and, and_true, cond_true, sm0, sm1, sm1l, sm2, lc_lt, lc_gt, lc_eq, Int.toNat_natCast, Int.reduceToNat, Nat.reduceAdd, Nat.reduceEqDiff, Int.reduceLT, Int.reduceEq, Int.reduceNeg, Int.reduceAdd, Int.reduceMul, Nat.reduceMul, ms_n, ms_i, ms_l, ms_p, PM]))
theorem bit01 {v : Int} {p : Nat} : bit v p = 0 ∨ bit v p = 1 := by
  unfold bit; omega
theorem i_bit {v a : Int} (h1 : 0 ≤ v) (h2 : v < 2147483648) (ha : 0 ≤ a ∧ a < 31) : i_and (i_shr v a) 1 = bit v a.toNat := by
  obtain ⟨p, rfl⟩ := Int.eq_ofNat_of_zero_le ha.1
  rw [i_shr_div (by omega) h2 (by omega), i_and1]
  rfl
theorem i_shr8 {v : Int} (h1 : -2147483648 ≤ v) (h2 : v < 2147483648) : i_shr v 8 = v / 256 := i_shr_div (p := 8) h1 h2 (by decide)
theorem i_shr5 {v : Int} (h1 : -2147483648 ≤ v) (h2 : v < 2147483648) : i_shr v 5 = v / 32 := i_shr_div (p := 5) h1 h2 (by decide)
theorem i_shr1 {v : Int} (h1 : -2147483648 ≤ v) (h2 : v < 2147483648) : i_shr v 1 = v / 2 := i_shr_div (p := 1) h1 h2 (by decide)
theorem pw7 : ∀ n : Nat, n ≤ 7 → (2 : Int) ^ n ≤ 128 := by decide
theorem m_areNear {a b : Int} (hF : Fix σ) (ha : 0 ≤ a ∧ a < 7) (hb : 0 ≤ b ∧ b < 7) (hv : 0 ≤ σ 176 (7 + a.toNat) ∧ σ 176 (7 + a.toNat) ≤ 128) (h1 : bit (σ 176 (7 + a.toNat)) b.toNat = 1 → K (some (.inl 1)) σ) (h0 : bit (σ 176 (7 + a.toNat)) b.toNat = 0 → K (some (.inl 0)) σ) : Mt (d + 1) 184 [.inr (.inr 146), .inl a, .inl b] σ K := by
  refine Mt.go (lv := [some (.inr (.inr 146)), some (.inl a), some (.inl b)]) rfl rfl rfl ?_
  refine At.blk rfl rfl rfl fun sx => ?_
  simp (decide := true) only [RR, ms_app, toList_some, toList_none, if_true, if_false, true_and, and_true, cond_true, sm0, sm1, sm1l, sm2, lc_lt, lc_gt, lc_eq, Int.toNat_natCast, Int.reduceToNat, Nat.reduceAdd, Nat.reduceEqDiff, Int.reduceLT, Int.reduceEq, Int.reduceNeg, Int.reduceAdd, Int.reduceMul, Nat.reduceMul, ms_n, ms_i, ms_l, ms_p, PM, fxM hF]
  rw [w32_small (by omega) (by omega), show (7 + a).toNat = 7 + a.toNat by omega, i_bit hv.1 (by omega) (by omega)]
  refine ⟨by omega, ?_⟩
  have := bit01 (v := σ 176 (7 + a.toNat)) (p := b.toNat)
  repeat' (first | (exact h1 (by omega)) | (exact h0 (by omega)) | (refine ⟨⟨by omega, by omega⟩, ?_⟩) | split | (refine At.blk rfl rfl rfl fun sx => ?_; simp (decide := true) only [RR, ms_app, toList_some, toList_none, if_true, if_false, true_and, and_true, cond_true, sm0, sm1, sm1l, sm2, lc_lt, lc_gt, lc_eq, Int.toNat_natCast, Int.reduceToNat, Nat.reduceAdd, Nat.reduceEqDiff, Int.reduceLT, Int.reduceEq, Int.reduceNeg, Int.reduceAdd, Int.reduceMul, Nat.reduceMul, ms_n, ms_i, ms_l, ms_p, PM]))
end
/-- kept -/
theorem x_row {d : Nat} {σ : mM} {K : Option mV → mM → Prop} {a b : Int} (hF : Fix σ) (hc : σ 39 1 ≤ 40)
    (h9 : ¬(0 ≤ a ∧ a < σ 39 1 ∧ 0 ≤ b ∧ b ≤ 2) → K (some (.inl (-1))) σ)
    (h0 : 0 ≤ a ∧ a < σ 39 1 ∧ b = 0 → K (some (.inl (i_shr (σ 40 a.toNat) 8))) σ)
    (h1 : 0 ≤ a ∧ a < σ 39 1 ∧ b = 1 → K (some (.inl (i_and (i_shr (σ 40 a.toNat) 5) 7))) σ)
    (h2 : 0 ≤ a ∧ a < σ 39 1 ∧ b = 2 → K (some (.inl (i_and (σ 40 a.toNat) 31))) σ) : Mt (d + 1) 13 [.inr (.inr 39), .inl a, .inl b] σ K := by
  refine Mt.go (lv := [some (.inr (.inr 39)), some (.inl a), some (.inl b)]) rfl rfl rfl ?_
  repeat' (first | (exact h9 (by omega)) | (exact h0 (by omega)) | (exact h1 (by omega)) | (exact h2 (by omega)) | (refine ⟨⟨by omega, by omega⟩, ?_⟩) | split | (refine At.blk rfl rfl rfl fun sx => ?_; simp (decide := true) only [RR, ms_app, toList_some, toList_none, if_true, if_false, true_and, and_true, cond_true, sm0, sm1, sm1l, sm2, lc_lt, lc_gt, lc_eq, Int.toNat_natCast, Int.reduceToNat, Nat.reduceAdd, Nat.reduceEqDiff, Int.reduceLT, Int.reduceEq, Int.reduceNeg, Int.reduceAdd, Int.reduceMul, Nat.reduceMul, ms_n, ms_i, ms_l, ms_p, PX, fxX hF]))
theorem m_kept {d : Nat} {σ : mM} {K : Option mV → mM → Prop} {a b : Int} (hF : Fix σ) (hc : 0 ≤ σ 182 29 ∧ σ 182 29 ≤ 40)
    (h9 : ¬(0 ≤ a ∧ a < σ 182 29 ∧ 0 ≤ b ∧ b ≤ 2) → K (some (.inl (-1))) σ)
    (h0 : 0 ≤ a ∧ a < σ 182 29 ∧ 0 ≤ b ∧ b ≤ 2 → K (some (.inl (σ 182 (30 + 3 * a.toNat + b.toNat)))) σ) : Mt (d + 2) 207 [.inr (.inr 146), .inl a, .inl b] σ K := by
  refine Mt.go (lv := [some (.inr (.inr 146)), some (.inl a), some (.inl b)]) rfl rfl rfl ?_
  refine At.blk rfl rfl rfl fun sx => ?_
  simp (decide := true) only [RR, ms_app, toList_some, toList_none, if_true, if_false, true_and, and_true, cond_true, sm0, sm1, sm1l, sm2, lc_lt, lc_gt, lc_eq, Int.toNat_natCast, Int.reduceToNat, Nat.reduceAdd, Nat.reduceEqDiff, Int.reduceLT, Int.reduceEq, Int.reduceNeg, Int.reduceAdd, Int.reduceMul, Nat.reduceMul, ms_n, ms_i, ms_l, ms_p, PM, fxM hF]
  refine cal_of rfl (m_isIn ?_)
  rw [w32_small (by omega) (by omega)]
  have no : ¬(0 ≤ a ∧ a < σ 182 29 ∧ 0 ≤ b ∧ b ≤ 2) → At (d + 1) 207 1 [some (.inr (.inr 146)), some (.inl a), some (.inl b)] [] σ K := by
    intro hn
    repeat' (first | (exact h9 hn) | (refine ⟨⟨by omega, by omega⟩, ?_⟩) | split | (refine At.blk rfl rfl rfl fun sx => ?_; simp (decide := true) only [RR, ms_app, toList_some, toList_none, if_true, if_false, true_and, and_true, cond_true, sm0, sm1, sm1l, sm2, lc_lt, lc_gt, lc_eq, Int.toNat_natCast, Int.reduceToNat, Nat.reduceAdd, Nat.reduceEqDiff, Int.reduceLT, Int.reduceEq, Int.reduceNeg, Int.reduceAdd, Int.reduceMul, Nat.reduceMul, ms_n, ms_i, ms_l, ms_p, PM]))
  by_cases c1 : 0 ≤ a ∧ a ≤ σ 182 29 - 1
  · rw [if_pos c1]
    simp (decide := true) only [RR, ms_app, toList_some, toList_none, if_true, if_false, true_and, and_true, cond_true, sm0, sm1, sm1l, sm2, lc_lt, lc_gt, lc_eq, Int.toNat_natCast, Int.reduceToNat, Nat.reduceAdd, Nat.reduceEqDiff, Int.reduceLT, Int.reduceEq, Int.reduceNeg, Int.reduceAdd, Int.reduceMul, Nat.reduceMul, ms_n, ms_i, ms_l, ms_p, PM]
    refine cal_of rfl (m_isIn ?_)
    by_cases c2 : 0 ≤ b ∧ b ≤ 2
    · rw [if_pos c2]
      simp (decide := true) only [RR, ms_app, toList_some, toList_none, if_true, if_false, true_and, and_true, cond_true, sm0, sm1, sm1l, sm2, lc_lt, lc_gt, lc_eq, Int.toNat_natCast, Int.reduceToNat, Nat.reduceAdd, Nat.reduceEqDiff, Int.reduceLT, Int.reduceEq, Int.reduceNeg, Int.reduceAdd, Int.reduceMul, Nat.reduceMul, ms_n, ms_i, ms_l, ms_p, PM, fxM hF]
      rw [w32_small (x := 3 * a) (by omega) (by omega), w32_small (x := 30 + 3 * a) (by omega) (by omega), w32_small (by omega) (by omega), show (30 + 3 * a + b).toNat = 30 + 3 * a.toNat + b.toNat by omega]
      refine ⟨by omega, ?_⟩
      repeat' (first | (exact h0 (by omega)) | (refine ⟨⟨by omega, by omega⟩, ?_⟩) | split | (refine At.blk rfl rfl rfl fun sx => ?_; simp (decide := true) only [RR, ms_app, toList_some, toList_none, if_true, if_false, true_and, and_true, cond_true, sm0, sm1, sm1l, sm2, lc_lt, lc_gt, lc_eq, Int.toNat_natCast, Int.reduceToNat, Nat.reduceAdd, Nat.reduceEqDiff, Int.reduceLT, Int.reduceEq, Int.reduceNeg, Int.reduceAdd, Int.reduceMul, Nat.reduceMul, ms_n, ms_i, ms_l, ms_p, PM]))
    · rw [if_neg c2]
      simp (decide := true) only [RR, ms_app, toList_some, toList_none, if_true, if_false, true_and, and_true, cond_true, sm0, sm1, sm1l, sm2, lc_lt, lc_gt, lc_eq, Int.toNat_natCast, Int.reduceToNat, Nat.reduceAdd, Nat.reduceEqDiff, Int.reduceLT, Int.reduceEq, Int.reduceNeg, Int.reduceAdd, Int.reduceMul, Nat.reduceMul, ms_n, ms_i, ms_l, ms_p, PM]
      exact no (by omega)
  · rw [if_neg c1]
    simp (decide := true) only [RR, ms_app, toList_some, toList_none, if_true, if_false, true_and, and_true, cond_true, sm0, sm1, sm1l, sm2, lc_lt, lc_gt, lc_eq, Int.toNat_natCast, Int.reduceToNat, Nat.reduceAdd, Nat.reduceEqDiff, Int.reduceLT, Int.reduceEq, Int.reduceNeg, Int.reduceAdd, Int.reduceMul, Nat.reduceMul, ms_n, ms_i, ms_l, ms_p, PM]
    exact no (by omega)
theorem p_kept {σ : mM} (h : Inv σ) (a b : Int) (_ : inR a) (_ : inR b) : PairI Inv 114 207 [.inl a, .inl b] σ := by
  have hF := h.1
  obtain ⟨k1, k2, k3⟩ := h.2.2.2.2.2.2.2.2.2.1
  have k1 : σ 182 29 = σ 39 1 := k1
  refine Mt.go (lv := [some (.inr (.inr 0)), some (.inl a), some (.inl b)]) rfl rfl rfl ?_
  refine At.blk rfl rfl rfl fun sx => ?_
  simp (decide := true) only [RR, ms_app, toList_some, toList_none, if_true, if_false, true_and, and_true, cond_true, sm0, sm1, sm1l, sm2, lc_lt, lc_gt, lc_eq, Int.toNat_natCast, Int.reduceToNat, Nat.reduceAdd, Nat.reduceEqDiff, Int.reduceLT, Int.reduceEq, Int.reduceNeg, Int.reduceAdd, Int.reduceMul, Nat.reduceMul, ms_n, ms_i, ms_l, ms_p, PX, fxX hF]
  have row : 0 ≤ a ∧ a < σ 39 1 → (0 ≤ σ 182 (30 + 3 * a.toNat) ∧ σ 182 (30 + 3 * a.toNat) ≤ 999) ∧ (0 ≤ σ 182 (31 + 3 * a.toNat) ∧ σ 182 (31 + 3 * a.toNat) ≤ 6) ∧ (0 ≤ σ 182 (32 + 3 * a.toNat) ∧ σ 182 (32 + 3 * a.toNat) ≤ 20) ∧ σ 40 a.toNat = 256 * σ 182 (30 + 3 * a.toNat) + 32 * σ 182 (31 + 3 * a.toNat) + σ 182 (32 + 3 * a.toNat) := by
    intro ha
    have := k3 a.toNat (by omega)
    simp only [Nat.zero_add] at this
    exact this
  refine cal_of rfl (x_row hF k2.2 (fun hn => ?_) (fun hn => ?_) (fun hn => ?_) (fun hn => ?_))
  · simp (decide := true) only [RR, ms_app, toList_some, toList_none, if_true, if_false, true_and, and_true, cond_true, sm0, sm1, sm1l, sm2, lc_lt, lc_gt, lc_eq, Int.toNat_natCast, Int.reduceToNat, Nat.reduceAdd, Nat.reduceEqDiff, Int.reduceLT, Int.reduceEq, Int.reduceNeg, Int.reduceAdd, Int.reduceMul, Nat.reduceMul, ms_n, ms_i, ms_l, ms_p, PX]
    exact ⟨_, rfl, m_kept hF (by omega) (fun _ => ⟨rfl, h⟩) (fun hy => absurd hy (by omega))⟩
  · simp (decide := true) only [RR, ms_app, toList_some, toList_none, if_true, if_false, true_and, and_true, cond_true, sm0, sm1, sm1l, sm2, lc_lt, lc_gt, lc_eq, Int.toNat_natCast, Int.reduceToNat, Nat.reduceAdd, Nat.reduceEqDiff, Int.reduceLT, Int.reduceEq, Int.reduceNeg, Int.reduceAdd, Int.reduceMul, Nat.reduceMul, ms_n, ms_i, ms_l, ms_p, PX]
    refine ⟨_, rfl, m_kept hF (by omega) (fun hy => absurd hy (by omega)) (fun _ => ⟨?_, h⟩)⟩
    obtain ⟨r0, r1, r2, r3⟩ := row (by omega)
    rw [r3, i_shr8 (by omega) (by omega), show 30 + 3 * a.toNat + b.toNat = 30 + 3 * a.toNat by omega]
    congr 2
    omega
  · simp (decide := true) only [RR, ms_app, toList_some, toList_none, if_true, if_false, true_and, and_true, cond_true, sm0, sm1, sm1l, sm2, lc_lt, lc_gt, lc_eq, Int.toNat_natCast, Int.reduceToNat, Nat.reduceAdd, Nat.reduceEqDiff, Int.reduceLT, Int.reduceEq, Int.reduceNeg, Int.reduceAdd, Int.reduceMul, Nat.reduceMul, ms_n, ms_i, ms_l, ms_p, PX]
    refine ⟨_, rfl, m_kept hF (by omega) (fun hy => absurd hy (by omega)) (fun _ => ⟨?_, h⟩)⟩
    obtain ⟨r0, r1, r2, r3⟩ := row (by omega)
    rw [r3, i_shr5 (by omega) (by omega), i_and7, show 30 + 3 * a.toNat + b.toNat = 31 + 3 * a.toNat by omega]
    congr 2
    omega
  · simp (decide := true) only [RR, ms_app, toList_some, toList_none, if_true, if_false, true_and, and_true, cond_true, sm0, sm1, sm1l, sm2, lc_lt, lc_gt, lc_eq, Int.toNat_natCast, Int.reduceToNat, Nat.reduceAdd, Nat.reduceEqDiff, Int.reduceLT, Int.reduceEq, Int.reduceNeg, Int.reduceAdd, Int.reduceMul, Nat.reduceMul, ms_n, ms_i, ms_l, ms_p, PX]
    refine ⟨_, rfl, m_kept hF (by omega) (fun hy => absurd hy (by omega)) (fun _ => ⟨?_, h⟩)⟩
    obtain ⟨r0, r1, r2, r3⟩ := row (by omega)
    rw [r3, i_and31, show 30 + 3 * a.toNat + b.toNat = 32 + 3 * a.toNat by omega]
    congr 2
    omega
