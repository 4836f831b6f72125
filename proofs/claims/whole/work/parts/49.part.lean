/-- what the invariant tells of a PART -/
theorem Inv.part {σ : mM} (h : Inv σ) {p : Nat} (hp : (p : Int) < σ 3 4) : σ 173 2 = σ 3 4 ∧ 0 ≤ σ 3 4 ∧ σ 3 4 ≤ 7 ∧ p < 7 ∧
    (σ 182 (1 + 4 * p) = σ 29 p ∧ 0 ≤ σ 29 p ∧ σ 29 p ≤ 20) ∧ σ 182 (2 + 4 * p) = bit (σ 28 3) p ∧ σ 182 (3 + 4 * p) = bit (σ 28 4) p ∧ ActR (σ 30 p) (σ 182 (4 + 4 * p)) ∧
    σ 176 (7 + p) = σ 6 p ∧ 0 ≤ σ 6 p ∧ σ 6 p < 128 ∧ (0 ≤ σ 28 3 ∧ σ 28 3 < 128) ∧ (0 ≤ σ 28 4 ∧ σ 28 4 < 128) := by
  obtain ⟨hF, hT, hR, hf, hZ, hP, hS, hC, hN, hk2, hU, hth⟩ := h
  obtain ⟨c1, c2, c3, c4, c5, c6⟩ := hC
  obtain ⟨n1, n2, n3, n4, n5⟩ := hN
  have q := pw7 (σ 3 4).toNat (by omega)
  have := n5 p hp
  simp only [Nat.zero_add] at this
  have c := c5 p hp
  exact ⟨c1.1, c1.2.1, c1.2.2, by omega, this.1, this.2.1, this.2.2.1, this.2.2.2, c.2.1, c.2.2.1, by omega, by omega, by omega⟩
theorem Inv.many {σ : mM} (h : Inv σ) : σ 173 2 = σ 3 4 ∧ 0 ≤ σ 3 4 ∧ σ 3 4 ≤ 7 := h.2.2.2.2.2.2.2.1.1
theorem Inv.gale {σ : mM} (h : Inv σ) : σ 178 2 = σ 3 8 ∧ 1 ≤ σ 3 8 ∧ σ 3 8 ≤ 20 := h.2.2.2.2.2.2.2.1.2.2.1
theorem x_part {d : Nat} {σ : mM} {K : Option mV → mM → Prop} {a b : Int} (hF : Fix σ) (hc : σ 3 4 ≤ 7)
    (h9 : ¬(0 ≤ a ∧ a < σ 3 4 ∧ 0 ≤ b ∧ b ≤ 4) → K (some (.inl (-1))) σ)
    (h0 : 0 ≤ a ∧ a < σ 3 4 ∧ b = 0 → K (some (.inl (σ 29 a.toNat))) σ)
    (h1 : 0 ≤ a ∧ a < σ 3 4 ∧ b = 1 → K (some (.inl (i_and (i_shr (σ 28 3) a) 1))) σ)
    (h2 : 0 ≤ a ∧ a < σ 3 4 ∧ b = 2 → K (some (.inl (i_and (i_shr (σ 28 4) a) 1))) σ)
    (h3 : 0 ≤ a ∧ a < σ 3 4 ∧ b = 3 → K (some (.inl (σ 6 a.toNat))) σ)
    (h4 : 0 ≤ a ∧ a < σ 3 4 ∧ b = 4 ∧ σ 3 8 ≤ σ 29 a.toNat → K (some (.inl 1)) σ)
    (h5 : 0 ≤ a ∧ a < σ 3 4 ∧ b = 4 ∧ σ 29 a.toNat < σ 3 8 → K (some (.inl 0)) σ) : Mt (d + 2) 112 [.inr (.inr 0), .inl a, .inl b] σ K := by
  refine Mt.go (lv := [some (.inr (.inr 0)), some (.inl a), some (.inl b)]) rfl rfl rfl ?_
  refine At.blk rfl rfl rfl fun sx => ?_
  simp (decide := true) only [RR, ms_app, toList_some, toList_none, if_true, if_false, true_and, and_true, cond_true, sm0, sm1, sm1l, sm2, lc_lt, lc_gt, lc_eq, Int.toNat_natCast, Int.reduceToNat, Nat.reduceAdd, Nat.reduceEqDiff, Int.reduceLT, Int.reduceEq, Int.reduceNeg, Int.reduceAdd, Int.reduceMul, Nat.reduceMul, ms_n, ms_i, ms_l, ms_p, PX, fxX hF]
  refine cal_of rfl (x_holds3 (fun hh => ?_) (fun hh => ?_))
  · simp (decide := true) only [RR, ms_app, toList_some, toList_none, if_true, if_false, true_and, and_true, cond_true, sm0, sm1, sm1l, sm2, lc_lt, lc_gt, lc_eq, Int.toNat_natCast, Int.reduceToNat, Nat.reduceAdd, Nat.reduceEqDiff, Int.reduceLT, Int.reduceEq, Int.reduceNeg, Int.reduceAdd, Int.reduceMul, Nat.reduceMul, ms_n, ms_i, ms_l, ms_p, PX]
    repeat' (first | (exact h9 (by omega)) | (exact h0 (by omega)) | (exact h1 (by omega)) | (exact h2 (by omega)) | (exact h3 (by omega)) | (exact h4 (by omega)) | (exact h5 (by omega)) | (refine ⟨⟨by omega, by omega⟩, ?_⟩) | split | (refine At.blk rfl rfl rfl fun sx => ?_; simp (decide := true) only [RR, ms_app, toList_some, toList_none, if_true, if_false, true_and, and_true, cond_true, sm0, sm1, sm1l, sm2, lc_lt, lc_gt, lc_eq, Int.toNat_natCast, Int.reduceToNat, Nat.reduceAdd, Nat.reduceEqDiff, Int.reduceLT, Int.reduceEq, Int.reduceNeg, Int.reduceAdd, Int.reduceMul, Nat.reduceMul, ms_n, ms_i, ms_l, ms_p, PX, fxX hF]))
  · simp (decide := true) only [RR, ms_app, toList_some, toList_none, if_true, if_false, true_and, and_true, cond_true, sm0, sm1, sm1l, sm2, lc_lt, lc_gt, lc_eq, Int.toNat_natCast, Int.reduceToNat, Nat.reduceAdd, Nat.reduceEqDiff, Int.reduceLT, Int.reduceEq, Int.reduceNeg, Int.reduceAdd, Int.reduceMul, Nat.reduceMul, ms_n, ms_i, ms_l, ms_p, PX]
    exact h9 (by omega)
theorem m_part {d : Nat} {σ : mM} {K : Option mV → mM → Prop} {a b : Int} (hF : Fix σ) (hc : 0 ≤ σ 173 2 ∧ σ 173 2 ≤ 7)
    (h9 : ¬(0 ≤ a ∧ a < σ 173 2 ∧ 0 ≤ b ∧ b ≤ 4) → K (some (.inl (-1))) σ)
    (h0 : 0 ≤ a ∧ a < σ 173 2 ∧ 0 ≤ b ∧ b ≤ 2 → K (some (.inl (σ 182 (1 + 4 * a.toNat + b.toNat)))) σ)
    (h3 : 0 ≤ a ∧ a < σ 173 2 ∧ b = 3 → K (some (.inl (σ 176 (7 + a.toNat)))) σ)
    (h4 : 0 ≤ a ∧ a < σ 173 2 ∧ b = 4 ∧ σ 178 2 ≤ σ 182 (1 + 4 * a.toNat) → K (some (.inl 1)) σ)
    (h5 : 0 ≤ a ∧ a < σ 173 2 ∧ b = 4 ∧ σ 182 (1 + 4 * a.toNat) < σ 178 2 → K (some (.inl 0)) σ) : Mt (d + 3) 205 [.inr (.inr 146), .inl a, .inl b] σ K := by
  refine Mt.go (lv := [some (.inr (.inr 146)), some (.inl a), some (.inl b)]) rfl rfl rfl ?_
  refine At.blk rfl rfl rfl fun sx => ?_
  simp (decide := true) only [RR, ms_app, toList_some, toList_none, if_true, if_false, true_and, and_true, cond_true, sm0, sm1, sm1l, sm2, lc_lt, lc_gt, lc_eq, Int.toNat_natCast, Int.reduceToNat, Nat.reduceAdd, Nat.reduceEqDiff, Int.reduceLT, Int.reduceEq, Int.reduceNeg, Int.reduceAdd, Int.reduceMul, Nat.reduceMul, ms_n, ms_i, ms_l, ms_p, PM, fxM hF]
  refine cal_of rfl (m_isPart hF hc (fun hh => ?_) (fun hh => ?_))
  · simp (decide := true) only [RR, ms_app, toList_some, toList_none, if_true, if_false, true_and, and_true, cond_true, sm0, sm1, sm1l, sm2, lc_lt, lc_gt, lc_eq, Int.toNat_natCast, Int.reduceToNat, Nat.reduceAdd, Nat.reduceEqDiff, Int.reduceLT, Int.reduceEq, Int.reduceNeg, Int.reduceAdd, Int.reduceMul, Nat.reduceMul, ms_n, ms_i, ms_l, ms_p, PM]
    have two : 0 ≤ b ∧ b ≤ 2 → At (d + 2) 205 2 [some (.inr (.inr 146)), some (.inl a), some (.inl b)] [] σ K := by
      intro hb
      refine At.blk rfl rfl rfl fun sx => ?_
      simp (decide := true) only [RR, ms_app, toList_some, toList_none, if_true, if_false, true_and, and_true, cond_true, sm0, sm1, sm1l, sm2, lc_lt, lc_gt, lc_eq, Int.toNat_natCast, Int.reduceToNat, Nat.reduceAdd, Nat.reduceEqDiff, Int.reduceLT, Int.reduceEq, Int.reduceNeg, Int.reduceAdd, Int.reduceMul, Nat.reduceMul, ms_n, ms_i, ms_l, ms_p, PM, fxM hF]
      rw [w32_small (x := 4 * a) (by omega) (by omega), w32_small (x := 1 + 4 * a) (by omega) (by omega), w32_small (by omega) (by omega), show (1 + 4 * a + b).toNat = 1 + 4 * a.toNat + b.toNat by omega]
      exact ⟨by omega, h0 (by omega)⟩
    refine At.blk rfl rfl rfl fun sx => ?_
    simp (decide := true) only [RR, ms_app, toList_some, toList_none, if_true, if_false, true_and, and_true, cond_true, sm0, sm1, sm1l, sm2, lc_lt, lc_gt, lc_eq, Int.toNat_natCast, Int.reduceToNat, Nat.reduceAdd, Nat.reduceEqDiff, Int.reduceLT, Int.reduceEq, Int.reduceNeg, Int.reduceAdd, Int.reduceMul, Nat.reduceMul, ms_n, ms_i, ms_l, ms_p, PM, fxM hF]
    split
    · exact two (by omega)
    · split
      · exact two (by omega)
      · split
        · exact two (by omega)
        · split
          · refine At.blk rfl rfl rfl fun sx => ?_
            simp (decide := true) only [RR, ms_app, toList_some, toList_none, if_true, if_false, true_and, and_true, cond_true, sm0, sm1, sm1l, sm2, lc_lt, lc_gt, lc_eq, Int.toNat_natCast, Int.reduceToNat, Nat.reduceAdd, Nat.reduceEqDiff, Int.reduceLT, Int.reduceEq, Int.reduceNeg, Int.reduceAdd, Int.reduceMul, Nat.reduceMul, ms_n, ms_i, ms_l, ms_p, PM, fxM hF]
            rw [w32_small (by omega) (by omega), show (7 + a).toNat = 7 + a.toNat by omega]
            exact ⟨by omega, h3 (by omega)⟩
          · split
            · refine At.blk rfl rfl rfl fun sx => ?_
              simp (decide := true) only [RR, ms_app, toList_some, toList_none, if_true, if_false, true_and, and_true, cond_true, sm0, sm1, sm1l, sm2, lc_lt, lc_gt, lc_eq, Int.toNat_natCast, Int.reduceToNat, Nat.reduceAdd, Nat.reduceEqDiff, Int.reduceLT, Int.reduceEq, Int.reduceNeg, Int.reduceAdd, Int.reduceMul, Nat.reduceMul, ms_n, ms_i, ms_l, ms_p, PM, fxM hF]
              refine cal_of rfl (m_isGale hF (by omega) (fun hg => ?_) (fun hg => ?_))
              · simp (decide := true) only [RR, ms_app, toList_some, toList_none, if_true, if_false, true_and, and_true, cond_true, sm0, sm1, sm1l, sm2, lc_lt, lc_gt, lc_eq, Int.toNat_natCast, Int.reduceToNat, Nat.reduceAdd, Nat.reduceEqDiff, Int.reduceLT, Int.reduceEq, Int.reduceNeg, Int.reduceAdd, Int.reduceMul, Nat.reduceMul, ms_n, ms_i, ms_l, ms_p, PM]
                repeat' (first | (exact h4 (by omega)) | (refine ⟨⟨by omega, by omega⟩, ?_⟩) | split | (refine At.blk rfl rfl rfl fun sx => ?_; simp (decide := true) only [RR, ms_app, toList_some, toList_none, if_true, if_false, true_and, and_true, cond_true, sm0, sm1, sm1l, sm2, lc_lt, lc_gt, lc_eq, Int.toNat_natCast, Int.reduceToNat, Nat.reduceAdd, Nat.reduceEqDiff, Int.reduceLT, Int.reduceEq, Int.reduceNeg, Int.reduceAdd, Int.reduceMul, Nat.reduceMul, ms_n, ms_i, ms_l, ms_p, PM]))
              · simp (decide := true) only [RR, ms_app, toList_some, toList_none, if_true, if_false, true_and, and_true, cond_true, sm0, sm1, sm1l, sm2, lc_lt, lc_gt, lc_eq, Int.toNat_natCast, Int.reduceToNat, Nat.reduceAdd, Nat.reduceEqDiff, Int.reduceLT, Int.reduceEq, Int.reduceNeg, Int.reduceAdd, Int.reduceMul, Nat.reduceMul, ms_n, ms_i, ms_l, ms_p, PM]
                repeat' (first | (exact h5 (by omega)) | (refine ⟨⟨by omega, by omega⟩, ?_⟩) | split | (refine At.blk rfl rfl rfl fun sx => ?_; simp (decide := true) only [RR, ms_app, toList_some, toList_none, if_true, if_false, true_and, and_true, cond_true, sm0, sm1, sm1l, sm2, lc_lt, lc_gt, lc_eq, Int.toNat_natCast, Int.reduceToNat, Nat.reduceAdd, Nat.reduceEqDiff, Int.reduceLT, Int.reduceEq, Int.reduceNeg, Int.reduceAdd, Int.reduceMul, Nat.reduceMul, ms_n, ms_i, ms_l, ms_p, PM]))
            · repeat' (first | (exact h9 (by omega)) | (refine ⟨⟨by omega, by omega⟩, ?_⟩) | split | (refine At.blk rfl rfl rfl fun sx => ?_; simp (decide := true) only [RR, ms_app, toList_some, toList_none, if_true, if_false, true_and, and_true, cond_true, sm0, sm1, sm1l, sm2, lc_lt, lc_gt, lc_eq, Int.toNat_natCast, Int.reduceToNat, Nat.reduceAdd, Nat.reduceEqDiff, Int.reduceLT, Int.reduceEq, Int.reduceNeg, Int.reduceAdd, Int.reduceMul, Nat.reduceMul, ms_n, ms_i, ms_l, ms_p, PM]))
  · simp (decide := true) only [RR, ms_app, toList_some, toList_none, if_true, if_false, true_and, and_true, cond_true, sm0, sm1, sm1l, sm2, lc_lt, lc_gt, lc_eq, Int.toNat_natCast, Int.reduceToNat, Nat.reduceAdd, Nat.reduceEqDiff, Int.reduceLT, Int.reduceEq, Int.reduceNeg, Int.reduceAdd, Int.reduceMul, Nat.reduceMul, ms_n, ms_i, ms_l, ms_p, PM]
    exact h9 (by omega)
theorem p_part {σ : mM} (h : Inv σ) (a b : Int) (_ : inR a) (_ : inR b) : PairI Inv 112 205 [.inl a, .inl b] σ := by
  have hF := h.1
  obtain ⟨m1, m2, m3⟩ := h.many
  obtain ⟨g1, g2, g3⟩ := h.gale
  have hp : 0 ≤ a ∧ a < σ 3 4 → _ := fun ha => h.part (p := a.toNat) (by omega)
  refine x_part hF m3 (fun hn => ?_) (fun hn => ?_) (fun hn => ?_) (fun hn => ?_) (fun hn => ?_) (fun hn => ?_) (fun hn => ?_)
  · exact ⟨_, rfl, m_part hF (by omega) (fun _ => ⟨rfl, h⟩) (fun hy => absurd hy (by omega)) (fun hy => absurd hy (by omega)) (fun hy => absurd hy (by omega)) (fun hy => absurd hy (by omega))⟩
  · refine ⟨_, rfl, m_part hF (by omega) (fun hy => absurd hy (by omega)) (fun _ => ⟨?_, h⟩) (fun hy => absurd hy (by omega)) (fun hy => absurd hy (by omega)) (fun hy => absurd hy (by omega))⟩
    rw [show 1 + 4 * a.toNat + b.toNat = 1 + 4 * a.toNat by omega, (hp (by omega)).2.2.2.2.1.1]
  · refine ⟨_, rfl, m_part hF (by omega) (fun hy => absurd hy (by omega)) (fun _ => ⟨?_, h⟩) (fun hy => absurd hy (by omega)) (fun hy => absurd hy (by omega)) (fun hy => absurd hy (by omega))⟩
    have q := hp (by omega)
    rw [show 1 + 4 * a.toNat + b.toNat = 2 + 4 * a.toNat by omega, q.2.2.2.2.2.1, i_bit (by omega) (by omega) (by omega)]
  · refine ⟨_, rfl, m_part hF (by omega) (fun hy => absurd hy (by omega)) (fun _ => ⟨?_, h⟩) (fun hy => absurd hy (by omega)) (fun hy => absurd hy (by omega)) (fun hy => absurd hy (by omega))⟩
    have q := hp (by omega)
    rw [show 1 + 4 * a.toNat + b.toNat = 3 + 4 * a.toNat by omega, q.2.2.2.2.2.2.1, i_bit (by omega) (by omega) (by omega)]
  · refine ⟨_, rfl, m_part hF (by omega) (fun hy => absurd hy (by omega)) (fun hy => absurd hy (by omega)) (fun _ => ⟨?_, h⟩) (fun hy => absurd hy (by omega)) (fun hy => absurd hy (by omega))⟩
    have q := hp (by omega)
    rw [q.2.2.2.2.2.2.2.2.1]
  · have q := hp (by omega)
    exact ⟨_, rfl, m_part hF (by omega) (fun hy => absurd hy (by omega)) (fun hy => absurd hy (by omega)) (fun hy => absurd hy (by omega)) (fun _ => ⟨rfl, h⟩) (fun hy => absurd hy (by omega))⟩
  · have q := hp (by omega)
    exact ⟨_, rfl, m_part hF (by omega) (fun hy => absurd hy (by omega)) (fun hy => absurd hy (by omega)) (fun hy => absurd hy (by omega)) (fun hy => absurd hy (by omega)) (fun _ => ⟨rfl, h⟩)⟩
