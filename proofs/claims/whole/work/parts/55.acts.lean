theorem keepM_set {σ : mM} {x c q k : Nat} {v : Int} (h1 : q ≠ 193) (h2 : q ≠ 146) (h3 : q ≠ 182) : keepM (mj_set σ q k v) x c = mj_set (keepM σ x c) q k v := by
  funext a b
  unfold keepM keepP
  simp only [ms_app]
  by_cases c1 : a = 146
  · subst c1
    simp only [if_true, if_neg (show ¬(146 = 193) by decide), if_neg (show ¬(146 = q) by omega)]
  · by_cases c2 : a = 193
    · subst c2
      simp only [if_true, if_neg (show ¬(193 = 146) by decide), if_neg (show ¬(193 = q) by omega), if_neg (show ¬(182 = q) by omega)]
    · simp only [c1, c2, if_false]
section
variable {d : Nat} {σ : mM} {K : Option mV → mM → Prop}
theorem m_becomes {a w v b : Int} {x c : Nat} (hw : 0 ≤ w ∧ w ≤ 3) (hF : Fix σ) (hn : 0 ≤ σ 173 2 ∧ σ 173 2 ≤ 7) (hx : σ 146 66 = (x : Int)) (hx2 : x < 20) (hc : σ 146 65 = (c : Int)) (hc2 : c ≤ 20)
    (h0 : ¬(0 ≤ a ∧ a < σ 173 2 ∧ b ≠ 0 ∧ σ 182 (1 + 4 * a.toNat + w.toNat) ≠ v) → K (some (.inl 0)) (mj_set σ 148 2 (w32 (σ 148 2 + 1))))
    (h1 : 0 ≤ a ∧ a < σ 173 2 ∧ b ≠ 0 ∧ σ 182 (1 + 4 * a.toNat + w.toNat) ≠ v → K (some (.inl 1)) (mj_set (keepM σ x c) 182 (1 + 4 * a.toNat + w.toNat) v)) : Mt (d + 3) 228 [.inr (.inr 146), .inl a, .inl w, .inl v, .inl b] σ K := by
  refine Mt.go (lv := [some (.inr (.inr 146)), some (.inl a), some (.inl w), some (.inl v), some (.inl b)]) rfl rfl rfl ?_
  have no : ¬(0 ≤ a ∧ a < σ 173 2 ∧ b ≠ 0 ∧ σ 182 (1 + 4 * a.toNat + w.toNat) ≠ v) → At (d + 2) 228 1 [some (.inr (.inr 146)), some (.inl a), some (.inl w), some (.inl v), some (.inl b)] [] σ K := by
    intro hh
    refine At.blk rfl rfl rfl fun sx => ?_
    simp (decide := true) only [RR, ms_app, toList_some, toList_none, if_true, if_false, true_and, and_true, cond_true, sm0, sm1, sm1l, sm2, lc_lt, lc_gt, lc_eq, Int.toNat_natCast, Int.reduceToNat, Nat.reduceAdd, Nat.reduceEqDiff, Int.reduceLT, Int.reduceEq, Int.reduceNeg, Int.reduceAdd, Int.reduceMul, Nat.reduceMul, ms_n, ms_i, ms_l, ms_p, PM, fxM hF]
    exact h0 hh
  refine At.blk rfl rfl rfl fun sx => ?_
  simp (decide := true) only [RR, ms_app, toList_some, toList_none, if_true, if_false, true_and, and_true, cond_true, sm0, sm1, sm1l, sm2, lc_lt, lc_gt, lc_eq, Int.toNat_natCast, Int.reduceToNat, Nat.reduceAdd, Nat.reduceEqDiff, Int.reduceLT, Int.reduceEq, Int.reduceNeg, Int.reduceAdd, Int.reduceMul, Nat.reduceMul, ms_n, ms_i, ms_l, ms_p, PM, fxM hF]
  refine cal_of rfl (m_isPart hF hn (fun hh => ?_) (fun hh => ?_))
  · simp (decide := true) only [RR, ms_app, toList_some, toList_none, if_true, if_false, true_and, and_true, cond_true, sm0, sm1, sm1l, sm2, lc_lt, lc_gt, lc_eq, Int.toNat_natCast, Int.reduceToNat, Nat.reduceAdd, Nat.reduceEqDiff, Int.reduceLT, Int.reduceEq, Int.reduceNeg, Int.reduceAdd, Int.reduceMul, Nat.reduceMul, ms_n, ms_i, ms_l, ms_p, PM, fxM hF]
    split
    · exact no (by omega)
    · rename_i hb
      have e1 : w32 (w32 (1 + w32 (4 * a)) + w) = 1 + 4 * a + w := by
        rw [w32_small (x := 4 * a) (by omega) (by omega), w32_small (x := 1 + 4 * a) (by omega) (by omega), w32_small (by omega) (by omega)]
      have e2 : (1 + 4 * a + w).toNat = 1 + 4 * a.toNat + w.toNat := by omega
      rw [e1, e2]
      refine ⟨by omega, ?_⟩
      by_cases hv : σ 182 (1 + 4 * a.toNat + w.toNat) = v
      · rw [if_pos hv]
        exact no (by omega)
      · rw [if_neg hv]
        refine At.blk rfl rfl rfl fun sx => ?_
        simp (decide := true) only [RR, ms_app, toList_some, toList_none, if_true, if_false, true_and, and_true, cond_true, sm0, sm1, sm1l, sm2, lc_lt, lc_gt, lc_eq, Int.toNat_natCast, Int.reduceToNat, Nat.reduceAdd, Nat.reduceEqDiff, Int.reduceLT, Int.reduceEq, Int.reduceNeg, Int.reduceAdd, Int.reduceMul, Nat.reduceMul, ms_n, ms_i, ms_l, ms_p, PM, fxM hF]
        refine cal_of rfl (m_keeps hF hx hx2 hc hc2 ?_)
        simp (decide := true) only [RR, ms_app, toList_some, toList_none, if_true, if_false, true_and, and_true, cond_true, sm0, sm1, sm1l, sm2, lc_lt, lc_gt, lc_eq, Int.toNat_natCast, Int.reduceToNat, Nat.reduceAdd, Nat.reduceEqDiff, Int.reduceLT, Int.reduceEq, Int.reduceNeg, Int.reduceAdd, Int.reduceMul, Nat.reduceMul, ms_n, ms_i, ms_l, ms_p, PM, fxM (fix_keepM (x := x) (c := c) hF)]
        rw [e1, e2]
        exact ⟨by omega, h1 ⟨hh.1, hh.2, hb, hv⟩⟩
  · simp (decide := true) only [RR, ms_app, toList_some, toList_none, if_true, if_false, true_and, and_true, cond_true, sm0, sm1, sm1l, sm2, lc_lt, lc_gt, lc_eq, Int.toNat_natCast, Int.reduceToNat, Nat.reduceAdd, Nat.reduceEqDiff, Int.reduceLT, Int.reduceEq, Int.reduceNeg, Int.reduceAdd, Int.reduceMul, Nat.reduceMul, ms_n, ms_i, ms_l, ms_p, PM]
    exact no (by omega)
theorem x_actTonight {a v : Int} {x c : Nat} (hF : Fix σ) (hn : 0 ≤ σ 3 4 ∧ σ 3 4 ≤ 7) (hx : σ 41 2 = (x : Int)) (hx2 : x < 20) (hc : σ 41 3 = (c : Int)) (hc2 : c ≤ 20)
    (h0 : ¬(0 ≤ a ∧ a < σ 3 4 ∧ σ 30 a.toNat ≠ v) → K (some (.inl 0)) (mj_set σ 145 2 (w32 (σ 145 2 + 1))))
    (h1 : 0 ≤ a ∧ a < σ 3 4 ∧ σ 30 a.toNat ≠ v → K (some (.inl 1)) (mj_set (remC σ x c) 30 a.toNat v)) : Mt (d + 3) 140 [.inr (.inr 0), .inl a, .inl v] σ K := by
  refine Mt.go (lv := [some (.inr (.inr 0)), some (.inl a), some (.inl v)]) rfl rfl rfl ?_
  have no : ¬(0 ≤ a ∧ a < σ 3 4 ∧ σ 30 a.toNat ≠ v) → At (d + 2) 140 1 [some (.inr (.inr 0)), some (.inl a), some (.inl v)] [] σ K := by
    intro hh
    refine At.blk rfl rfl rfl fun sx => ?_
    simp (decide := true) only [RR, ms_app, toList_some, toList_none, if_true, if_false, true_and, and_true, cond_true, sm0, sm1, sm1l, sm2, lc_lt, lc_gt, lc_eq, Int.toNat_natCast, Int.reduceToNat, Nat.reduceAdd, Nat.reduceEqDiff, Int.reduceLT, Int.reduceEq, Int.reduceNeg, Int.reduceAdd, Int.reduceMul, Nat.reduceMul, ms_n, ms_i, ms_l, ms_p, PX, fxX hF]
    refine cal_of rfl (x_deny (k := 2) hF (by decide) ?_)
    simp (decide := true) only [RR, ms_app, toList_some, toList_none, if_true, if_false, true_and, and_true, cond_true, sm0, sm1, sm1l, sm2, lc_lt, lc_gt, lc_eq, Int.toNat_natCast, Int.reduceToNat, Nat.reduceAdd, Nat.reduceEqDiff, Int.reduceLT, Int.reduceEq, Int.reduceNeg, Int.reduceAdd, Int.reduceMul, Nat.reduceMul, ms_n, ms_i, ms_l, ms_p, PX]
    exact h0 hh
  refine At.blk rfl rfl rfl fun sx => ?_
  simp (decide := true) only [RR, ms_app, toList_some, toList_none, if_true, if_false, true_and, and_true, cond_true, sm0, sm1, sm1l, sm2, lc_lt, lc_gt, lc_eq, Int.toNat_natCast, Int.reduceToNat, Nat.reduceAdd, Nat.reduceEqDiff, Int.reduceLT, Int.reduceEq, Int.reduceNeg, Int.reduceAdd, Int.reduceMul, Nat.reduceMul, ms_n, ms_i, ms_l, ms_p, PX, fxX hF]
  refine cal_of rfl (x_holds3 (fun hh => ?_) (fun hh => ?_))
  · simp (decide := true) only [RR, ms_app, toList_some, toList_none, if_true, if_false, true_and, and_true, cond_true, sm0, sm1, sm1l, sm2, lc_lt, lc_gt, lc_eq, Int.toNat_natCast, Int.reduceToNat, Nat.reduceAdd, Nat.reduceEqDiff, Int.reduceLT, Int.reduceEq, Int.reduceNeg, Int.reduceAdd, Int.reduceMul, Nat.reduceMul, ms_n, ms_i, ms_l, ms_p, PX, fxX hF]
    refine ⟨⟨by omega, by omega⟩, ?_⟩
    by_cases hv : σ 30 a.toNat = v
    · rw [if_pos hv]
      exact no (by omega)
    · rw [if_neg hv]
      refine At.blk rfl rfl rfl fun sx => ?_
      simp (decide := true) only [RR, ms_app, toList_some, toList_none, if_true, if_false, true_and, and_true, cond_true, sm0, sm1, sm1l, sm2, lc_lt, lc_gt, lc_eq, Int.toNat_natCast, Int.reduceToNat, Nat.reduceAdd, Nat.reduceEqDiff, Int.reduceLT, Int.reduceEq, Int.reduceNeg, Int.reduceAdd, Int.reduceMul, Nat.reduceMul, ms_n, ms_i, ms_l, ms_p, PX, fxX hF]
      refine cal_of rfl (x_remember hF hx hx2 hc hc2 ?_)
      simp (decide := true) only [RR, ms_app, toList_some, toList_none, if_true, if_false, true_and, and_true, cond_true, sm0, sm1, sm1l, sm2, lc_lt, lc_gt, lc_eq, Int.toNat_natCast, Int.reduceToNat, Nat.reduceAdd, Nat.reduceEqDiff, Int.reduceLT, Int.reduceEq, Int.reduceNeg, Int.reduceAdd, Int.reduceMul, Nat.reduceMul, ms_n, ms_i, ms_l, ms_p, PX, fxX (fix_remC (x := x) (c := c) hF hx2)]
      exact ⟨⟨by omega, by omega⟩, h1 (by omega)⟩
  · simp (decide := true) only [RR, ms_app, toList_some, toList_none, if_true, if_false, true_and, and_true, cond_true, sm0, sm1, sm1l, sm2, lc_lt, lc_gt, lc_eq, Int.toNat_natCast, Int.reduceToNat, Nat.reduceAdd, Nat.reduceEqDiff, Int.reduceLT, Int.reduceEq, Int.reduceNeg, Int.reduceAdd, Int.reduceMul, Nat.reduceMul, ms_n, ms_i, ms_l, ms_p, PX]
    exact no (by omega)
theorem x_wouldChange {a b v : Int} (hv : 0 ≤ v ∧ v < 128) (hn : 0 ≤ σ 3 4 ∧ σ 3 4 ≤ 7) (hF : Fix σ)
    (h0 : ¬(0 ≤ a ∧ a < σ 3 4 ∧ 0 ≤ b ∧ b ≤ 1 ∧ bit v a.toNat ≠ b) → K (some (.inl 0)) σ)
    (h1 : 0 ≤ a ∧ a < σ 3 4 ∧ 0 ≤ b ∧ b ≤ 1 ∧ bit v a.toNat ≠ b → K (some (.inl 1)) σ) : Mt (d + 2) 141 [.inr (.inr 0), .inl a, .inl b, .inl v] σ K := by
  refine Mt.go (lv := [some (.inr (.inr 0)), some (.inl a), some (.inl b), some (.inl v)]) rfl rfl rfl ?_
  have no : ¬(0 ≤ a ∧ a < σ 3 4 ∧ 0 ≤ b ∧ b ≤ 1 ∧ bit v a.toNat ≠ b) → At (d + 1) 141 2 [some (.inr (.inr 0)), some (.inl a), some (.inl b), some (.inl v)] [] σ K := by
    intro hh
    repeat' (first | (exact h0 hh) | (refine ⟨⟨by omega, by omega⟩, ?_⟩) | split | (refine At.blk rfl rfl rfl fun sx => ?_; simp (decide := true) only [RR, ms_app, toList_some, toList_none, if_true, if_false, true_and, and_true, cond_true, sm0, sm1, sm1l, sm2, lc_lt, lc_gt, lc_eq, Int.toNat_natCast, Int.reduceToNat, Nat.reduceAdd, Nat.reduceEqDiff, Int.reduceLT, Int.reduceEq, Int.reduceNeg, Int.reduceAdd, Int.reduceMul, Nat.reduceMul, ms_n, ms_i, ms_l, ms_p, PX, fxX hF]))
  refine At.blk rfl rfl rfl fun sx => ?_
  simp (decide := true) only [RR, ms_app, toList_some, toList_none, if_true, if_false, true_and, and_true, cond_true, sm0, sm1, sm1l, sm2, lc_lt, lc_gt, lc_eq, Int.toNat_natCast, Int.reduceToNat, Nat.reduceAdd, Nat.reduceEqDiff, Int.reduceLT, Int.reduceEq, Int.reduceNeg, Int.reduceAdd, Int.reduceMul, Nat.reduceMul, ms_n, ms_i, ms_l, ms_p, PX, fxX hF]
  refine cal_of rfl (x_holds3 (fun hh => ?_) (fun hh => ?_))
  · simp (decide := true) only [RR, ms_app, toList_some, toList_none, if_true, if_false, true_and, and_true, cond_true, sm0, sm1, sm1l, sm2, lc_lt, lc_gt, lc_eq, Int.toNat_natCast, Int.reduceToNat, Nat.reduceAdd, Nat.reduceEqDiff, Int.reduceLT, Int.reduceEq, Int.reduceNeg, Int.reduceAdd, Int.reduceMul, Nat.reduceMul, ms_n, ms_i, ms_l, ms_p, PX, fxX hF]
    have yes : 0 ≤ b ∧ b ≤ 1 → At (d + 1) 141 1 [some (.inr (.inr 0)), some (.inl a), some (.inl b), some (.inl v)] [] σ K := by
      intro hb
      refine At.blk rfl rfl rfl fun sx => ?_
      simp (decide := true) only [RR, ms_app, toList_some, toList_none, if_true, if_false, true_and, and_true, cond_true, sm0, sm1, sm1l, sm2, lc_lt, lc_gt, lc_eq, Int.toNat_natCast, Int.reduceToNat, Nat.reduceAdd, Nat.reduceEqDiff, Int.reduceLT, Int.reduceEq, Int.reduceNeg, Int.reduceAdd, Int.reduceMul, Nat.reduceMul, ms_n, ms_i, ms_l, ms_p, PX, fxX hF]
      rw [i_bit hv.1 (by omega) (by omega)]
      by_cases e : bit v a.toNat = b
      · rw [if_pos e]; exact no (by omega)
      · rw [if_neg e]
        repeat' (first | (exact h1 (by omega)) | (refine ⟨⟨by omega, by omega⟩, ?_⟩) | split | (refine At.blk rfl rfl rfl fun sx => ?_; simp (decide := true) only [RR, ms_app, toList_some, toList_none, if_true, if_false, true_and, and_true, cond_true, sm0, sm1, sm1l, sm2, lc_lt, lc_gt, lc_eq, Int.toNat_natCast, Int.reduceToNat, Nat.reduceAdd, Nat.reduceEqDiff, Int.reduceLT, Int.reduceEq, Int.reduceNeg, Int.reduceAdd, Int.reduceMul, Nat.reduceMul, ms_n, ms_i, ms_l, ms_p, PX, fxX hF]))
    split
    · exact yes (by omega)
    · split
      · exact yes (by omega)
      · exact no (by omega)
  · simp (decide := true) only [RR, ms_app, toList_some, toList_none, if_true, if_false, true_and, and_true, cond_true, sm0, sm1, sm1l, sm2, lc_lt, lc_gt, lc_eq, Int.toNat_natCast, Int.reduceToNat, Nat.reduceAdd, Nat.reduceEqDiff, Int.reduceLT, Int.reduceEq, Int.reduceNeg, Int.reduceAdd, Int.reduceMul, Nat.reduceMul, ms_n, ms_i, ms_l, ms_p, PX]
    exact no (by omega)
end
theorem ActR.num {c m a : Int} (h : ActR c m) (ha : 0 ≤ a ∧ a ≤ 20) : c = a ↔ m = a := by
  unfold ActR at h; omega
theorem ActR.hush {c m : Int} (h : ActR c m) : c = 254 ↔ m = -2 := by
  unfold ActR at h; omega
theorem Inv.act {σ : mM} (h : Inv σ) {p : Nat} {u v : Int} (hp : (p : Int) < σ 3 4) (ha : ActR u v) : Inv (mj_set (mj_set σ 30 p u) 182 (4 + 4 * p) v) := by
  obtain ⟨hF, hT, hR, hf, hZ, hP, hS, hC, hN, hk2, hU, hth⟩ := h
  obtain ⟨n1, n2, n3, n4, n5⟩ := hN
  obtain ⟨k1, k2, k3⟩ := hk2
  have n7 : σ 3 4 ≤ 7 := hC.1.2.2
  refine ⟨(hF.set rfl).set rfl, hT.cg rfl rfl rfl rfl, hR.cg rfl rfl, hf.cg rfl rfl rfl rfl, hZ.cg rfl rfl, hP.cg rfl rfl rfl rfl, hS.cg rfl rfl rfl rfl rfl, hC.cg rfl rfl rfl rfl rfl rfl rfl rfl rfl rfl rfl rfl rfl, ?_, ?_, hU.cg rfl rfl rfl rfl rfl rfl (fun q h1 h2 => by rw [ms_row (by omega), ms_row (by omega)]), hth⟩
  · have g : ∀ k, k ≠ 4 + 4 * p → mj_set (mj_set σ 30 p u) 182 (4 + 4 * p) v 182 k = σ 182 k := by
      intro k hk
      rw [ms_app, if_pos rfl, if_neg hk]; rfl
    refine ⟨by rw [g _ (by omega)]; exact n1, n2, n3, n4, fun j hj => ?_⟩
    obtain ⟨a1, a2, a3, a4⟩ := n5 j hj
    rw [g _ (by omega), g _ (by omega), g _ (by omega)]
    refine ⟨a1, a2, a3, ?_⟩
    rw [Nat.zero_add] at a4 ⊢
    show ActR (mj_set σ 30 p u 30 j) _
    rw [ms_app, ms_app, if_pos rfl, if_pos rfl]
    by_cases e : j = p
    · rw [if_pos e, if_pos (by omega)]; exact ha
    · rw [if_neg e, if_neg (by omega)]; exact a4
  · have g : ∀ k, 29 ≤ k → mj_set (mj_set σ 30 p u) 182 (4 + 4 * p) v 182 k = σ 182 k := by
      intro k hk
      rw [ms_app, if_pos rfl, if_neg (by omega)]; rfl
    refine ⟨by rw [g _ (by omega)]; exact k1, k2, fun j hj => ?_⟩
    rw [g _ (by omega), g _ (by omega), g _ (by omega)]
    exact k3 j hj
/-- a bit turned -/
theorem xor_tab : ∀ n : Nat, n < 8 → ∀ v : Nat, v < 2 ^ n → ∀ p : Nat, p < n → (0 ≤ i_xor (v : Int) (i_shl 1 (p : Int)) ∧ i_xor (v : Int) (i_shl 1 (p : Int)) < 2 ^ n) ∧ ∀ j : Nat, j < n → bit (i_xor (v : Int) (i_shl 1 (p : Int))) j = if j = p then 1 - bit (v : Int) p else bit (v : Int) j := by decide +kernel
theorem xor_bit {n p : Nat} {v : Int} (hn : n ≤ 7) (hp : p < n) (h0 : 0 ≤ v) (h1 : v < 2 ^ n) : (0 ≤ i_xor v (i_shl 1 (p : Int)) ∧ i_xor v (i_shl 1 (p : Int)) < 2 ^ n) ∧ ∀ j : Nat, j < n → bit (i_xor v (i_shl 1 (p : Int))) j = if j = p then 1 - bit v p else bit v j := by
  obtain ⟨u, rfl⟩ := Int.eq_ofNat_of_zero_le h0
  refine xor_tab n (by omega) u ?_ p hp
  have : ((2 ^ n : Nat) : Int) = (2 : Int) ^ n := by simp
  omega
theorem Inv.turnaunt {σ : mM} (h : Inv σ) {p : Nat} {u v : Int} (hp : (p : Int) < σ 3 4) (hu : 0 ≤ u ∧ u < 2 ^ (σ 3 4).toNat) (hv : v = bit u p) (hb : ∀ j : Nat, (j : Int) < σ 3 4 → j ≠ p → bit u j = bit (σ 28 3) j) : Inv (mj_set (mj_set σ 28 3 u) 182 (2 + 4 * p) v) := by
  obtain ⟨hF, hT, hR, hf, hZ, hP, hS, hC, hN, hk2, hU, hth⟩ := h
  obtain ⟨n1, n2, n3, n4, n5⟩ := hN
  obtain ⟨k1, k2, k3⟩ := hk2
  have n7 : σ 3 4 ≤ 7 := hC.1.2.2
  refine ⟨(hF.set rfl).set rfl, hT.cg rfl rfl rfl rfl, hR.cg rfl rfl, hf.cg rfl rfl rfl rfl, hZ.cg rfl rfl, hP.cg rfl rfl rfl rfl, hS.cg rfl rfl rfl rfl rfl, hC.cg rfl rfl rfl rfl rfl rfl rfl rfl rfl rfl rfl rfl rfl, ?_, ?_, hU.cg rfl rfl rfl rfl rfl rfl (fun q h1 h2 => by rw [ms_row (by omega), ms_row (by omega)]), hth⟩
  · have g : ∀ k, k ≠ 2 + 4 * p → mj_set (mj_set σ 28 3 u) 182 (2 + 4 * p) v 182 k = σ 182 k := by
      intro k hk
      rw [ms_app, if_pos rfl, if_neg hk]; rfl
    have gp : mj_set (mj_set σ 28 3 u) 182 (2 + 4 * p) v 182 (2 + 4 * p) = v := by
      rw [ms_app, if_pos rfl, if_pos rfl]
    refine ⟨by rw [g _ (by omega)]; exact n1, n2, ?_, ?_, fun j hj => ?_⟩
    · first | exact hu | exact n3
    · first | exact hu | exact n4
    · obtain ⟨a1, a2, a3, a4⟩ := n5 j hj
      rw [Nat.zero_add] at a1 a2 a3 a4 ⊢
      rw [Nat.zero_add, Nat.zero_add, Nat.zero_add]
      by_cases e : j = p
      · subst e
        first
          | (rw [g (1 + 4 * j) (by omega), g (3 + 4 * j) (by omega), g (4 + 4 * j) (by omega), gp]; exact ⟨a1, hv, a3, a4⟩)
          | (rw [g (1 + 4 * j) (by omega), g (2 + 4 * j) (by omega), g (4 + 4 * j) (by omega), gp]; exact ⟨a1, a2, hv, a4⟩)
      · rw [g (1 + 4 * j) (by omega), g (2 + 4 * j) (by omega), g (3 + 4 * j) (by omega), g (4 + 4 * j) (by omega)]
        have hb := hb j hj e
        first
          | exact ⟨a1, a2.trans hb.symm, a3, a4⟩
          | exact ⟨a1, a2, a3.trans hb.symm, a4⟩
  · have g : ∀ k, 29 ≤ k → mj_set (mj_set σ 28 3 u) 182 (2 + 4 * p) v 182 k = σ 182 k := by
      intro k hk
      rw [ms_app, if_pos rfl, if_neg (by omega)]; rfl
    refine ⟨by rw [g _ (by omega)]; exact k1, k2, fun j hj => ?_⟩
    rw [g _ (by omega), g _ (by omega), g _ (by omega)]
    exact k3 j hj
theorem Inv.turndeaf {σ : mM} (h : Inv σ) {p : Nat} {u v : Int} (hp : (p : Int) < σ 3 4) (hu : 0 ≤ u ∧ u < 2 ^ (σ 3 4).toNat) (hv : v = bit u p) (hb : ∀ j : Nat, (j : Int) < σ 3 4 → j ≠ p → bit u j = bit (σ 28 4) j) : Inv (mj_set (mj_set σ 28 4 u) 182 (3 + 4 * p) v) := by
  obtain ⟨hF, hT, hR, hf, hZ, hP, hS, hC, hN, hk2, hU, hth⟩ := h
  obtain ⟨n1, n2, n3, n4, n5⟩ := hN
  obtain ⟨k1, k2, k3⟩ := hk2
  have n7 : σ 3 4 ≤ 7 := hC.1.2.2
  refine ⟨(hF.set rfl).set rfl, hT.cg rfl rfl rfl rfl, hR.cg rfl rfl, hf.cg rfl rfl rfl rfl, hZ.cg rfl rfl, hP.cg rfl rfl rfl rfl, hS.cg rfl rfl rfl rfl rfl, hC.cg rfl rfl rfl rfl rfl rfl rfl rfl rfl rfl rfl rfl rfl, ?_, ?_, hU.cg rfl rfl rfl rfl rfl rfl (fun q h1 h2 => by rw [ms_row (by omega), ms_row (by omega)]), hth⟩
  · have g : ∀ k, k ≠ 3 + 4 * p → mj_set (mj_set σ 28 4 u) 182 (3 + 4 * p) v 182 k = σ 182 k := by
      intro k hk
      rw [ms_app, if_pos rfl, if_neg hk]; rfl
    have gp : mj_set (mj_set σ 28 4 u) 182 (3 + 4 * p) v 182 (3 + 4 * p) = v := by
      rw [ms_app, if_pos rfl, if_pos rfl]
    refine ⟨by rw [g _ (by omega)]; exact n1, n2, ?_, ?_, fun j hj => ?_⟩
    · first | exact hu | exact n3
    · first | exact hu | exact n4
    · obtain ⟨a1, a2, a3, a4⟩ := n5 j hj
      rw [Nat.zero_add] at a1 a2 a3 a4 ⊢
      rw [Nat.zero_add, Nat.zero_add, Nat.zero_add]
      by_cases e : j = p
      · subst e
        first
          | (rw [g (1 + 4 * j) (by omega), g (3 + 4 * j) (by omega), g (4 + 4 * j) (by omega), gp]; exact ⟨a1, hv, a3, a4⟩)
          | (rw [g (1 + 4 * j) (by omega), g (2 + 4 * j) (by omega), g (4 + 4 * j) (by omega), gp]; exact ⟨a1, a2, hv, a4⟩)
      · rw [g (1 + 4 * j) (by omega), g (2 + 4 * j) (by omega), g (3 + 4 * j) (by omega), g (4 + 4 * j) (by omega)]
        have hb := hb j hj e
        first
          | exact ⟨a1, a2.trans hb.symm, a3, a4⟩
          | exact ⟨a1, a2, a3.trans hb.symm, a4⟩
  · have g : ∀ k, 29 ≤ k → mj_set (mj_set σ 28 4 u) 182 (3 + 4 * p) v 182 k = σ 182 k := by
      intro k hk
      rw [ms_app, if_pos rfl, if_neg (by omega)]; rfl
    refine ⟨by rw [g _ (by omega)]; exact k1, k2, fun j hj => ?_⟩
    rw [g _ (by omega), g _ (by omega), g _ (by omega)]
    exact k3 j hj
