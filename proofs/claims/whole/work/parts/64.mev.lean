/-! the model: the value of a sum -/
def SkM (σ : mM) (C : Ct) (w : Sk) : Prop := σ 182 0 = w.1 ∧ ∀ p, p < C.1 → σ 182 (1 + 4 * p) = w.2.1 p ∧ σ 182 (2 + 4 * p) = w.2.2.1 p ∧ σ 182 (3 + 4 * p) = w.2.2.2.1 p ∧ σ 182 (4 + 4 * p) = w.2.2.2.2 p
def RlM (σ : mM) (r : Nat) (cs : List Int) : Prop := (σ 179 (3 + r) = -1 ∧ cs = [if r = 0 then 40 else if r = 1 then 41 else 45]) ∨ ∃ f : Nat, σ 179 (3 + r) = (f : Int) ∧ σ 180 (3 + r) = ((f + cs.length : Nat) : Int) ∧ f + cs.length ≤ 1600 ∧ ∀ (j : Nat) (h : j < cs.length), σ 181 (1600 + (f + j)) = cs[j]
def CtM (σ : mM) (C : Ct) : Prop := σ 173 2 = (C.1 : Int) ∧ σ 178 2 = C.2.1 ∧ (∀ p, p < C.1 → σ 176 (7 + p) = C.2.2.1 p) ∧ ∀ r, r < 3 → RlM σ r (C.2.2.2 r)
theorem SkM.cg {σ σ' : mM} {C : Ct} {w : Sk} (h : SkM σ C w) (e : ∀ k, k < 29 → σ' 182 k = σ 182 k) (hC : C.1 ≤ 7) : SkM σ' C w := by
  refine ⟨by rw [e 0 (by decide)]; exact h.1, fun p hp => ?_⟩
  have := h.2 p hp
  rw [e _ (by omega), e _ (by omega), e _ (by omega), e _ (by omega)]
  exact this
theorem RlM.cg {σ σ' : mM} {r : Nat} {cs : List Int} (h : RlM σ r cs) (e0 : σ' 179 = σ 179) (e1 : σ' 180 = σ 180) (e2 : σ' 181 = σ 181) : RlM σ' r cs := by
  unfold RlM at *; rw [e0, e1, e2]; exact h
theorem CtM.cg {σ σ' : mM} {C : Ct} (h : CtM σ C) (e3 : σ' 173 2 = σ 173 2) (e6 : σ' 178 2 = σ 178 2) (e7 : σ' 176 = σ 176) (e8 : σ' 179 = σ 179) (e9 : σ' 180 = σ 180) (e10 : σ' 181 = σ 181) : CtM σ' C := by
  unfold CtM at *; rw [e3, e6, e7]; exact ⟨h.1, h.2.1, h.2.2.1, fun r hr => (h.2.2.2 r hr).cg e8 e9 e10⟩
section
variable {d : Nat} {σ : mM} {K : Option mV → mM → Prop}
theorem m_aroundOf {C : Ct} {w : Sk} {mo : Bool} {mi : Int} {p : Nat} (hm : (mo = true ∧ mi = 1) ∨ (mo = false ∧ mi = 0)) (hF : Fix σ) (hC : CtV C) (hw : SkV C w) (hp : p < C.1) (hc : CtM σ C) (hs : SkM σ C w) (hK : K (some (.inl (around C w mo p))) σ) : Mt (d + 2) 185 [.inr (.inr 146), .inl (p : Int), .inl mi] σ K := by
  refine Mt.go (lv := [some (.inr (.inr 146)), some (.inl (p : Int)), some (.inl mi), none, none]) rfl rfl rfl ?_
  have n7 := hC.1
  obtain ⟨c1, c2, c3, c4⟩ := hc
  have np := c3 p hp
  have nb := hC.near hp
  refine At.blk rfl rfl rfl fun sx => ?_
  simp (decide := true) only [RR, ms_app, toList_some, toList_none, if_true, if_false, true_and, and_true, cond_true, sm0, sm1, sm1l, sm2, lc_lt, lc_gt, lc_eq, Int.toNat_natCast, Int.reduceToNat, Nat.reduceAdd, Nat.reduceEqDiff, Int.reduceLT, Int.reduceEq, Int.reduceNeg, Int.reduceAdd, Int.reduceMul, Nat.reduceMul, ms_n, ms_i, ms_l, ms_p, PM, fxM hF]
  have loop : ∀ m k : Nat, C.1 - k = m → k ≤ C.1 → At (d + 1) 185 1 [some (.inr (.inr 146)), some (.inl (p : Int)), some (.inl mi), some (.inl (arN C w mo p k)), some (.inl (k : Int))] [] σ K := by
    intro m
    induction m with
    | zero =>
      intro k hk hk2
      obtain rfl : k = C.1 := by omega
      have b := arN_le (mo := mo) (p := p) hw C.1 (Nat.le_refl _)
      unfold around at hK
      refine At.blk rfl rfl rfl fun sx => ?_
      simp (decide := true) only [RR, ms_app, toList_some, toList_none, if_true, if_false, true_and, and_true, cond_true, sm0, sm1, sm1l, sm2, lc_lt, lc_gt, lc_eq, Int.toNat_natCast, Int.reduceToNat, Nat.reduceAdd, Nat.reduceEqDiff, Int.reduceLT, Int.reduceEq, Int.reduceNeg, Int.reduceAdd, Int.reduceMul, Nat.reduceMul, ms_n, ms_i, ms_l, ms_p, PM, fxM hF]
      refine cal_of rfl (m_partMany hF ?_)
      simp (decide := true) only [RR, ms_app, toList_some, toList_none, if_true, if_false, true_and, and_true, cond_true, sm0, sm1, sm1l, sm2, lc_lt, lc_gt, lc_eq, Int.toNat_natCast, Int.reduceToNat, Nat.reduceAdd, Nat.reduceEqDiff, Int.reduceLT, Int.reduceEq, Int.reduceNeg, Int.reduceAdd, Int.reduceMul, Nat.reduceMul, ms_n, ms_i, ms_l, ms_p, PM, c1]
      rw [if_neg (by omega)]
      refine At.blk rfl rfl rfl fun sx => ?_
      simp (decide := true) only [RR, ms_app, toList_some, toList_none, if_true, if_false, true_and, and_true, cond_true, sm0, sm1, sm1l, sm2, lc_lt, lc_gt, lc_eq, Int.toNat_natCast, Int.reduceToNat, Nat.reduceAdd, Nat.reduceEqDiff, Int.reduceLT, Int.reduceEq, Int.reduceNeg, Int.reduceAdd, Int.reduceMul, Nat.reduceMul, ms_n, ms_i, ms_l, ms_p, PM, fxM hF]
      by_cases h1 : arN C w mo p C.1 = -1
      · rw [if_pos h1]
        rw [if_pos h1] at hK
        refine cal_of rfl (m_airOf hF (by omega) ?_)
        rw [Int.toNat_natCast, (hs.2 p hp).1]
        simp (decide := true) only [RR, ms_app, toList_some, toList_none, if_true, if_false, true_and, and_true, cond_true, sm0, sm1, sm1l, sm2, lc_lt, lc_gt, lc_eq, Int.toNat_natCast, Int.reduceToNat, Nat.reduceAdd, Nat.reduceEqDiff, Int.reduceLT, Int.reduceEq, Int.reduceNeg, Int.reduceAdd, Int.reduceMul, Nat.reduceMul, ms_n, ms_i, ms_l, ms_p, PM]
        refine At.blk rfl rfl rfl fun sx => ?_
        simp (decide := true) only [RR, ms_app, toList_some, toList_none, if_true, if_false, true_and, and_true, cond_true, sm0, sm1, sm1l, sm2, lc_lt, lc_gt, lc_eq, Int.toNat_natCast, Int.reduceToNat, Nat.reduceAdd, Nat.reduceEqDiff, Int.reduceLT, Int.reduceEq, Int.reduceNeg, Int.reduceAdd, Int.reduceMul, Nat.reduceMul, ms_n, ms_i, ms_l, ms_p, PM]
        exact hK
      · rw [if_neg h1]
        rw [if_neg h1] at hK
        refine At.blk rfl rfl rfl fun sx => ?_
        simp (decide := true) only [RR, ms_app, toList_some, toList_none, if_true, if_false, true_and, and_true, cond_true, sm0, sm1, sm1l, sm2, lc_lt, lc_gt, lc_eq, Int.toNat_natCast, Int.reduceToNat, Nat.reduceAdd, Nat.reduceEqDiff, Int.reduceLT, Int.reduceEq, Int.reduceNeg, Int.reduceAdd, Int.reduceMul, Nat.reduceMul, ms_n, ms_i, ms_l, ms_p, PM]
        refine At.blk rfl rfl rfl fun sx => ?_
        simp (decide := true) only [RR, ms_app, toList_some, toList_none, if_true, if_false, true_and, and_true, cond_true, sm0, sm1, sm1l, sm2, lc_lt, lc_gt, lc_eq, Int.toNat_natCast, Int.reduceToNat, Nat.reduceAdd, Nat.reduceEqDiff, Int.reduceLT, Int.reduceEq, Int.reduceNeg, Int.reduceAdd, Int.reduceMul, Nat.reduceMul, ms_n, ms_i, ms_l, ms_p, PM]
        exact hK
    | succ m ih =>
      intro k hk hk2
      have hk3 : k < C.1 := by omega
      obtain ⟨a1, a2, a3, a4⟩ := hs.2 k hk3
      have five : ∀ v : Int, v = arN C w mo p (k + 1) → At (d + 1) 185 5 [some (.inr (.inr 146)), some (.inl (p : Int)), some (.inl mi), some (.inl v), some (.inl (k : Int))] [] σ K := by
        intro v hv
        refine At.blk rfl rfl rfl fun sx => ?_
        simp (decide := true) only [RR, ms_app, toList_some, toList_none, if_true, if_false, true_and, and_true, cond_true, sm0, sm1, sm1l, sm2, lc_lt, lc_gt, lc_eq, Int.toNat_natCast, Int.reduceToNat, Nat.reduceAdd, Nat.reduceEqDiff, Int.reduceLT, Int.reduceEq, Int.reduceNeg, Int.reduceAdd, Int.reduceMul, Nat.reduceMul, ms_n, ms_i, ms_l, ms_p, PM]
        rw [w32_small (by omega) (by omega), hv]
        exact ih (k + 1) (by omega) (by omega)
      unfold arN at five
      have four : bit (C.2.2.1 p) k = 1 ∧ w.2.2.1 k ≠ 1 → (arN C w mo p k = -1 ∨ (mo = true ∧ arN C w mo p k < w.2.1 k) ∨ (mo = false ∧ w.2.1 k < arN C w mo p k)) → At (d + 1) 185 4 [some (.inr (.inr 146)), some (.inl (p : Int)), some (.inl mi), some (.inl (arN C w mo p k)), some (.inl (k : Int))] [] σ K := by
        intro h1 h2
        refine At.blk rfl rfl rfl fun sx => ?_
        simp (decide := true) only [RR, ms_app, toList_some, toList_none, if_true, if_false, true_and, and_true, cond_true, sm0, sm1, sm1l, sm2, lc_lt, lc_gt, lc_eq, Int.toNat_natCast, Int.reduceToNat, Nat.reduceAdd, Nat.reduceEqDiff, Int.reduceLT, Int.reduceEq, Int.reduceNeg, Int.reduceAdd, Int.reduceMul, Nat.reduceMul, ms_n, ms_i, ms_l, ms_p, PM]
        refine cal_of rfl (m_airOf hF (by omega) ?_)
        rw [Int.toNat_natCast, a1]
        simp (decide := true) only [RR, ms_app, toList_some, toList_none, if_true, if_false, true_and, and_true, cond_true, sm0, sm1, sm1l, sm2, lc_lt, lc_gt, lc_eq, Int.toNat_natCast, Int.reduceToNat, Nat.reduceAdd, Nat.reduceEqDiff, Int.reduceLT, Int.reduceEq, Int.reduceNeg, Int.reduceAdd, Int.reduceMul, Nat.reduceMul, ms_n, ms_i, ms_l, ms_p, PM]
        refine five _ ?_
        rw [if_pos h1, if_pos h2]
      refine At.blk rfl rfl rfl fun sx => ?_
      simp (decide := true) only [RR, ms_app, toList_some, toList_none, if_true, if_false, true_and, and_true, cond_true, sm0, sm1, sm1l, sm2, lc_lt, lc_gt, lc_eq, Int.toNat_natCast, Int.reduceToNat, Nat.reduceAdd, Nat.reduceEqDiff, Int.reduceLT, Int.reduceEq, Int.reduceNeg, Int.reduceAdd, Int.reduceMul, Nat.reduceMul, ms_n, ms_i, ms_l, ms_p, PM, fxM hF]
      refine cal_of rfl (m_partMany hF ?_)
      simp (decide := true) only [RR, ms_app, toList_some, toList_none, if_true, if_false, true_and, and_true, cond_true, sm0, sm1, sm1l, sm2, lc_lt, lc_gt, lc_eq, Int.toNat_natCast, Int.reduceToNat, Nat.reduceAdd, Nat.reduceEqDiff, Int.reduceLT, Int.reduceEq, Int.reduceNeg, Int.reduceAdd, Int.reduceMul, Nat.reduceMul, ms_n, ms_i, ms_l, ms_p, PM, c1]
      rw [if_pos (by omega)]
      refine cal_of rfl (m_areNear hF (by omega) (by omega) (by rw [Int.toNat_natCast, np]; omega) (fun hh => ?_) (fun hh => ?_))
      · rw [Int.toNat_natCast, Int.toNat_natCast, np] at hh
        simp (decide := true) only [RR, ms_app, toList_some, toList_none, if_true, if_false, true_and, and_true, cond_true, sm0, sm1, sm1l, sm2, lc_lt, lc_gt, lc_eq, Int.toNat_natCast, Int.reduceToNat, Nat.reduceAdd, Nat.reduceEqDiff, Int.reduceLT, Int.reduceEq, Int.reduceNeg, Int.reduceAdd, Int.reduceMul, Nat.reduceMul, ms_n, ms_i, ms_l, ms_p, PM]
        refine cal_of rfl (m_hasAunt hF (by omega) (fun h2 => ?_) (fun h2 => ?_))
        · rw [Int.toNat_natCast, a2] at h2
          simp (decide := true) only [RR, ms_app, toList_some, toList_none, if_true, if_false, true_and, and_true, cond_true, sm0, sm1, sm1l, sm2, lc_lt, lc_gt, lc_eq, Int.toNat_natCast, Int.reduceToNat, Nat.reduceAdd, Nat.reduceEqDiff, Int.reduceLT, Int.reduceEq, Int.reduceNeg, Int.reduceAdd, Int.reduceMul, Nat.reduceMul, ms_n, ms_i, ms_l, ms_p, PM]
          refine five _ ?_
          rw [if_neg (fun h => h.2 h2)]
        · rw [Int.toNat_natCast, a2] at h2
          simp (decide := true) only [RR, ms_app, toList_some, toList_none, if_true, if_false, true_and, and_true, cond_true, sm0, sm1, sm1l, sm2, lc_lt, lc_gt, lc_eq, Int.toNat_natCast, Int.reduceToNat, Nat.reduceAdd, Nat.reduceEqDiff, Int.reduceLT, Int.reduceEq, Int.reduceNeg, Int.reduceAdd, Int.reduceMul, Nat.reduceMul, ms_n, ms_i, ms_l, ms_p, PM]
          refine At.blk rfl rfl rfl fun sx => ?_
          simp (decide := true) only [RR, ms_app, toList_some, toList_none, if_true, if_false, true_and, and_true, cond_true, sm0, sm1, sm1l, sm2, lc_lt, lc_gt, lc_eq, Int.toNat_natCast, Int.reduceToNat, Nat.reduceAdd, Nat.reduceEqDiff, Int.reduceLT, Int.reduceEq, Int.reduceNeg, Int.reduceAdd, Int.reduceMul, Nat.reduceMul, ms_n, ms_i, ms_l, ms_p, PM]
          by_cases h3 : arN C w mo p k = -1
          · rw [if_pos h3]
            exact four ⟨hh, h2⟩ (Or.inl h3)
          · rw [if_neg h3]
            rcases hm with ⟨rfl, rfl⟩ | ⟨rfl, rfl⟩
            · rw [if_neg (by decide)]
              refine cal_of rfl (m_airOf hF (by omega) ?_)
              rw [Int.toNat_natCast, a1]
              simp (decide := true) only [RR, ms_app, toList_some, toList_none, if_true, if_false, true_and, and_true, cond_true, sm0, sm1, sm1l, sm2, lc_lt, lc_gt, lc_eq, Int.toNat_natCast, Int.reduceToNat, Nat.reduceAdd, Nat.reduceEqDiff, Int.reduceLT, Int.reduceEq, Int.reduceNeg, Int.reduceAdd, Int.reduceMul, Nat.reduceMul, ms_n, ms_i, ms_l, ms_p, PM]
              by_cases h4 : arN C w true p k < w.2.1 k
              · rw [if_pos h4]
                exact four ⟨hh, h2⟩ (Or.inr (Or.inl ⟨rfl, h4⟩))
              · rw [if_neg h4]
                refine five _ ?_
                rw [if_pos ⟨hh, h2⟩, if_neg (by simp [h3, h4])]
            · rw [if_pos rfl]
              refine At.blk rfl rfl rfl fun sx => ?_
              simp (decide := true) only [RR, ms_app, toList_some, toList_none, if_true, if_false, true_and, and_true, cond_true, sm0, sm1, sm1l, sm2, lc_lt, lc_gt, lc_eq, Int.toNat_natCast, Int.reduceToNat, Nat.reduceAdd, Nat.reduceEqDiff, Int.reduceLT, Int.reduceEq, Int.reduceNeg, Int.reduceAdd, Int.reduceMul, Nat.reduceMul, ms_n, ms_i, ms_l, ms_p, PM]
              refine cal_of rfl (m_airOf hF (by omega) ?_)
              rw [Int.toNat_natCast, a1]
              simp (decide := true) only [RR, ms_app, toList_some, toList_none, if_true, if_false, true_and, and_true, cond_true, sm0, sm1, sm1l, sm2, lc_lt, lc_gt, lc_eq, Int.toNat_natCast, Int.reduceToNat, Nat.reduceAdd, Nat.reduceEqDiff, Int.reduceLT, Int.reduceEq, Int.reduceNeg, Int.reduceAdd, Int.reduceMul, Nat.reduceMul, ms_n, ms_i, ms_l, ms_p, PM]
              by_cases h4 : w.2.1 k < arN C w false p k
              · rw [if_pos h4]
                exact four ⟨hh, h2⟩ (Or.inr (Or.inr ⟨rfl, h4⟩))
              · rw [if_neg h4]
                refine five _ ?_
                rw [if_pos ⟨hh, h2⟩, if_neg (by simp [h3, h4])]
      · rw [Int.toNat_natCast, Int.toNat_natCast, np] at hh
        simp (decide := true) only [RR, ms_app, toList_some, toList_none, if_true, if_false, true_and, and_true, cond_true, sm0, sm1, sm1l, sm2, lc_lt, lc_gt, lc_eq, Int.toNat_natCast, Int.reduceToNat, Nat.reduceAdd, Nat.reduceEqDiff, Int.reduceLT, Int.reduceEq, Int.reduceNeg, Int.reduceAdd, Int.reduceMul, Nat.reduceMul, ms_n, ms_i, ms_l, ms_p, PM]
        refine five _ ?_
        rw [if_neg (fun h => by omega)]
  exact loop C.1 0 rfl (by omega)
theorem m_gales {C : Ct} {w : Sk} (hF : Fix σ) (hC : CtV C) (hc : CtM σ C) (hs : SkM σ C w) (hK : K (some (.inl (galesP C w))) σ) : Mt (d + 3) 187 [.inr (.inr 146)] σ K := by
  have n7 := hC.1
  refine m_galeMany hF (by rw [hc.1]; omega) ?_
  have e : sumN (fun p => galeI (σ 178 2) (σ 182 (1 + 4 * p))) (σ 173 2).toNat = galesP C w := by
    unfold galesP
    rw [hc.1, Int.toNat_natCast, hc.2.1]
    exact sumN_cg _ (fun j hj => by rw [(hs.2 j hj).1])
  rw [e]; exact hK
theorem m_qPartOf {C : Ct} {w : Sk} {t : Nat → Int} {p : Nat} {k : Int} (hk : 0 ≤ k ∧ k ≤ 8) (hF : Fix σ) (hC : CtV C) (hw : SkV C w) (hp : p < C.1) (hc : CtM σ C) (hs : SkM σ C w) (ht : k = 5 → σ 184 p = t p) (hK : K (some (.inr (.inl (valC C w t p (40 + k))))) σ) : Mt (d + 4) 260 [.inr (.inr 146), .inl k, .inl (p : Int)] σ K := by
  refine Mt.go (lv := [some (.inr (.inr 146)), some (.inl k), some (.inl (p : Int))]) rfl rfl rfl ?_
  have n7 := hC.1
  obtain ⟨a1, a2, a3, a4⟩ := hs.2 p hp
  have av := hw.2 p hp
  unfold valC at hK
  refine At.blk rfl rfl rfl fun sx => ?_
  simp (decide := true) only [RR, ms_app, toList_some, toList_none, if_true, if_false, true_and, and_true, cond_true, sm0, sm1, sm1l, sm2, lc_lt, lc_gt, lc_eq, Int.toNat_natCast, Int.reduceToNat, Nat.reduceAdd, Nat.reduceEqDiff, Int.reduceLT, Int.reduceEq, Int.reduceNeg, Int.reduceAdd, Int.reduceMul, Nat.reduceMul, ms_n, ms_i, ms_l, ms_p, PM, fxM hF]
  split
  · rw [if_pos (by omega)] at hK
    refine At.blk rfl rfl rfl fun sx => ?_
    simp (decide := true) only [RR, ms_app, toList_some, toList_none, if_true, if_false, true_and, and_true, cond_true, sm0, sm1, sm1l, sm2, lc_lt, lc_gt, lc_eq, Int.toNat_natCast, Int.reduceToNat, Nat.reduceAdd, Nat.reduceEqDiff, Int.reduceLT, Int.reduceEq, Int.reduceNeg, Int.reduceAdd, Int.reduceMul, Nat.reduceMul, ms_n, ms_i, ms_l, ms_p, PM]
    refine cal_of rfl (m_airOf hF (by omega) ?_)
    rw [Int.toNat_natCast, a1]
    simp (decide := true) only [RR, ms_app, toList_some, toList_none, if_true, if_false, true_and, and_true, cond_true, sm0, sm1, sm1l, sm2, lc_lt, lc_gt, lc_eq, Int.toNat_natCast, Int.reduceToNat, Nat.reduceAdd, Nat.reduceEqDiff, Int.reduceLT, Int.reduceEq, Int.reduceNeg, Int.reduceAdd, Int.reduceMul, Nat.reduceMul, ms_n, ms_i, ms_l, ms_p, PM]
    exact hK
  · rw [if_neg (by omega)] at hK
    split
    · rw [if_pos (by omega)] at hK
      refine At.blk rfl rfl rfl fun sx => ?_
      simp (decide := true) only [RR, ms_app, toList_some, toList_none, if_true, if_false, true_and, and_true, cond_true, sm0, sm1, sm1l, sm2, lc_lt, lc_gt, lc_eq, Int.toNat_natCast, Int.reduceToNat, Nat.reduceAdd, Nat.reduceEqDiff, Int.reduceLT, Int.reduceEq, Int.reduceNeg, Int.reduceAdd, Int.reduceMul, Nat.reduceMul, ms_n, ms_i, ms_l, ms_p, PM]
      refine cal_of rfl (m_aroundOf (mo := true) (Or.inl ⟨rfl, rfl⟩) hF hC hw hp hc hs ?_)
      simp (decide := true) only [RR, ms_app, toList_some, toList_none, if_true, if_false, true_and, and_true, cond_true, sm0, sm1, sm1l, sm2, lc_lt, lc_gt, lc_eq, Int.toNat_natCast, Int.reduceToNat, Nat.reduceAdd, Nat.reduceEqDiff, Int.reduceLT, Int.reduceEq, Int.reduceNeg, Int.reduceAdd, Int.reduceMul, Nat.reduceMul, ms_n, ms_i, ms_l, ms_p, PM]
      exact hK
    · rw [if_neg (by omega)] at hK
      split
      · rw [if_pos (by omega)] at hK
        refine At.blk rfl rfl rfl fun sx => ?_
        simp (decide := true) only [RR, ms_app, toList_some, toList_none, if_true, if_false, true_and, and_true, cond_true, sm0, sm1, sm1l, sm2, lc_lt, lc_gt, lc_eq, Int.toNat_natCast, Int.reduceToNat, Nat.reduceAdd, Nat.reduceEqDiff, Int.reduceLT, Int.reduceEq, Int.reduceNeg, Int.reduceAdd, Int.reduceMul, Nat.reduceMul, ms_n, ms_i, ms_l, ms_p, PM]
        refine cal_of rfl (m_aroundOf (mo := false) (Or.inr ⟨rfl, rfl⟩) hF hC hw hp hc hs ?_)
        simp (decide := true) only [RR, ms_app, toList_some, toList_none, if_true, if_false, true_and, and_true, cond_true, sm0, sm1, sm1l, sm2, lc_lt, lc_gt, lc_eq, Int.toNat_natCast, Int.reduceToNat, Nat.reduceAdd, Nat.reduceEqDiff, Int.reduceLT, Int.reduceEq, Int.reduceNeg, Int.reduceAdd, Int.reduceMul, Nat.reduceMul, ms_n, ms_i, ms_l, ms_p, PM]
        exact hK
      · rw [if_neg (by omega)] at hK
        split
        · rw [if_pos (by omega)] at hK
          refine At.blk rfl rfl rfl fun sx => ?_
          simp (decide := true) only [RR, ms_app, toList_some, toList_none, if_true, if_false, true_and, and_true, cond_true, sm0, sm1, sm1l, sm2, lc_lt, lc_gt, lc_eq, Int.toNat_natCast, Int.reduceToNat, Nat.reduceAdd, Nat.reduceEqDiff, Int.reduceLT, Int.reduceEq, Int.reduceNeg, Int.reduceAdd, Int.reduceMul, Nat.reduceMul, ms_n, ms_i, ms_l, ms_p, PM, fxM hF, hs.1]
          exact hK
        · rw [if_neg (by omega)] at hK
          split
          · rw [if_pos (by omega)] at hK
            refine At.blk rfl rfl rfl fun sx => ?_
            simp (decide := true) only [RR, ms_app, toList_some, toList_none, if_true, if_false, true_and, and_true, cond_true, sm0, sm1, sm1l, sm2, lc_lt, lc_gt, lc_eq, Int.toNat_natCast, Int.reduceToNat, Nat.reduceAdd, Nat.reduceEqDiff, Int.reduceLT, Int.reduceEq, Int.reduceNeg, Int.reduceAdd, Int.reduceMul, Nat.reduceMul, ms_n, ms_i, ms_l, ms_p, PM]
            refine cal_of rfl (m_gales hF hC hc hs ?_)
            simp (decide := true) only [RR, ms_app, toList_some, toList_none, if_true, if_false, true_and, and_true, cond_true, sm0, sm1, sm1l, sm2, lc_lt, lc_gt, lc_eq, Int.toNat_natCast, Int.reduceToNat, Nat.reduceAdd, Nat.reduceEqDiff, Int.reduceLT, Int.reduceEq, Int.reduceNeg, Int.reduceAdd, Int.reduceMul, Nat.reduceMul, ms_n, ms_i, ms_l, ms_p, PM]
            exact hK
          · rw [if_neg (by omega)] at hK
            split
            · rename_i h5
              rw [if_pos (by omega), ← ht h5] at hK
              refine At.blk rfl rfl rfl fun sx => ?_
              simp (decide := true) only [RR, ms_app, toList_some, toList_none, if_true, if_false, true_and, and_true, cond_true, sm0, sm1, sm1l, sm2, lc_lt, lc_gt, lc_eq, Int.toNat_natCast, Int.reduceToNat, Nat.reduceAdd, Nat.reduceEqDiff, Int.reduceLT, Int.reduceEq, Int.reduceNeg, Int.reduceAdd, Int.reduceMul, Nat.reduceMul, ms_n, ms_i, ms_l, ms_p, PM, fxM hF]
              exact ⟨⟨by omega, by omega⟩, hK⟩
            · rw [if_neg (by omega)] at hK
              split
              · rw [if_pos (by omega)] at hK
                refine At.blk rfl rfl rfl fun sx => ?_
                simp (decide := true) only [RR, ms_app, toList_some, toList_none, if_true, if_false, true_and, and_true, cond_true, sm0, sm1, sm1l, sm2, lc_lt, lc_gt, lc_eq, Int.toNat_natCast, Int.reduceToNat, Nat.reduceAdd, Nat.reduceEqDiff, Int.reduceLT, Int.reduceEq, Int.reduceNeg, Int.reduceAdd, Int.reduceMul, Nat.reduceMul, ms_n, ms_i, ms_l, ms_p, PM]
                exact hK
              · rw [if_neg (by omega)] at hK
                split
                · rw [if_pos (by omega)] at hK
                  refine At.blk rfl rfl rfl fun sx => ?_
                  simp (decide := true) only [RR, ms_app, toList_some, toList_none, if_true, if_false, true_and, and_true, cond_true, sm0, sm1, sm1l, sm2, lc_lt, lc_gt, lc_eq, Int.toNat_natCast, Int.reduceToNat, Nat.reduceAdd, Nat.reduceEqDiff, Int.reduceLT, Int.reduceEq, Int.reduceNeg, Int.reduceAdd, Int.reduceMul, Nat.reduceMul, ms_n, ms_i, ms_l, ms_p, PM]
                  refine cal_of rfl (m_hasAunt hF (by omega) (fun h2 => ?_) (fun h2 => ?_))
                  · rw [Int.toNat_natCast, a2] at h2
                    rw [h2] at hK
                    simp (decide := true) only [RR, ms_app, toList_some, toList_none, if_true, if_false, true_and, and_true, cond_true, sm0, sm1, sm1l, sm2, lc_lt, lc_gt, lc_eq, Int.toNat_natCast, Int.reduceToNat, Nat.reduceAdd, Nat.reduceEqDiff, Int.reduceLT, Int.reduceEq, Int.reduceNeg, Int.reduceAdd, Int.reduceMul, Nat.reduceMul, ms_n, ms_i, ms_l, ms_p, PM]
                    refine At.blk rfl rfl rfl fun sx => ?_
                    simp (decide := true) only [RR, ms_app, toList_some, toList_none, if_true, if_false, true_and, and_true, cond_true, sm0, sm1, sm1l, sm2, lc_lt, lc_gt, lc_eq, Int.toNat_natCast, Int.reduceToNat, Nat.reduceAdd, Nat.reduceEqDiff, Int.reduceLT, Int.reduceEq, Int.reduceNeg, Int.reduceAdd, Int.reduceMul, Nat.reduceMul, ms_n, ms_i, ms_l, ms_p, PM]
                    exact hK
                  · rw [Int.toNat_natCast, a2] at h2
                    rw [show w.2.2.1 p = 0 by omega] at hK
                    simp (decide := true) only [RR, ms_app, toList_some, toList_none, if_true, if_false, true_and, and_true, cond_true, sm0, sm1, sm1l, sm2, lc_lt, lc_gt, lc_eq, Int.toNat_natCast, Int.reduceToNat, Nat.reduceAdd, Nat.reduceEqDiff, Int.reduceLT, Int.reduceEq, Int.reduceNeg, Int.reduceAdd, Int.reduceMul, Nat.reduceMul, ms_n, ms_i, ms_l, ms_p, PM]
                    refine At.blk rfl rfl rfl fun sx => ?_
                    simp (decide := true) only [RR, ms_app, toList_some, toList_none, if_true, if_false, true_and, and_true, cond_true, sm0, sm1, sm1l, sm2, lc_lt, lc_gt, lc_eq, Int.toNat_natCast, Int.reduceToNat, Nat.reduceAdd, Nat.reduceEqDiff, Int.reduceLT, Int.reduceEq, Int.reduceNeg, Int.reduceAdd, Int.reduceMul, Nat.reduceMul, ms_n, ms_i, ms_l, ms_p, PM]
                    refine At.blk rfl rfl rfl fun sx => ?_
                    simp (decide := true) only [RR, ms_app, toList_some, toList_none, if_true, if_false, true_and, and_true, cond_true, sm0, sm1, sm1l, sm2, lc_lt, lc_gt, lc_eq, Int.toNat_natCast, Int.reduceToNat, Nat.reduceAdd, Nat.reduceEqDiff, Int.reduceLT, Int.reduceEq, Int.reduceNeg, Int.reduceAdd, Int.reduceMul, Nat.reduceMul, ms_n, ms_i, ms_l, ms_p, PM]
                    exact hK
                · rw [if_neg (by omega)] at hK
                  refine At.blk rfl rfl rfl fun sx => ?_
                  simp (decide := true) only [RR, ms_app, toList_some, toList_none, if_true, if_false, true_and, and_true, cond_true, sm0, sm1, sm1l, sm2, lc_lt, lc_gt, lc_eq, Int.toNat_natCast, Int.reduceToNat, Nat.reduceAdd, Nat.reduceEqDiff, Int.reduceLT, Int.reduceEq, Int.reduceNeg, Int.reduceAdd, Int.reduceMul, Nat.reduceMul, ms_n, ms_i, ms_l, ms_p, PM]
                  refine cal_of rfl (m_isDeaf hF (by omega) (fun h2 => ?_) (fun h2 => ?_))
                  · rw [Int.toNat_natCast, a3] at h2
                    rw [h2] at hK
                    simp (decide := true) only [RR, ms_app, toList_some, toList_none, if_true, if_false, true_and, and_true, cond_true, sm0, sm1, sm1l, sm2, lc_lt, lc_gt, lc_eq, Int.toNat_natCast, Int.reduceToNat, Nat.reduceAdd, Nat.reduceEqDiff, Int.reduceLT, Int.reduceEq, Int.reduceNeg, Int.reduceAdd, Int.reduceMul, Nat.reduceMul, ms_n, ms_i, ms_l, ms_p, PM]
                    refine At.blk rfl rfl rfl fun sx => ?_
                    simp (decide := true) only [RR, ms_app, toList_some, toList_none, if_true, if_false, true_and, and_true, cond_true, sm0, sm1, sm1l, sm2, lc_lt, lc_gt, lc_eq, Int.toNat_natCast, Int.reduceToNat, Nat.reduceAdd, Nat.reduceEqDiff, Int.reduceLT, Int.reduceEq, Int.reduceNeg, Int.reduceAdd, Int.reduceMul, Nat.reduceMul, ms_n, ms_i, ms_l, ms_p, PM]
                    exact hK
                  · rw [Int.toNat_natCast, a3] at h2
                    rw [show w.2.2.2.1 p = 0 by omega] at hK
                    simp (decide := true) only [RR, ms_app, toList_some, toList_none, if_true, if_false, true_and, and_true, cond_true, sm0, sm1, sm1l, sm2, lc_lt, lc_gt, lc_eq, Int.toNat_natCast, Int.reduceToNat, Nat.reduceAdd, Nat.reduceEqDiff, Int.reduceLT, Int.reduceEq, Int.reduceNeg, Int.reduceAdd, Int.reduceMul, Nat.reduceMul, ms_n, ms_i, ms_l, ms_p, PM]
                    refine At.blk rfl rfl rfl fun sx => ?_
                    simp (decide := true) only [RR, ms_app, toList_some, toList_none, if_true, if_false, true_and, and_true, cond_true, sm0, sm1, sm1l, sm2, lc_lt, lc_gt, lc_eq, Int.toNat_natCast, Int.reduceToNat, Nat.reduceAdd, Nat.reduceEqDiff, Int.reduceLT, Int.reduceEq, Int.reduceNeg, Int.reduceAdd, Int.reduceMul, Nat.reduceMul, ms_n, ms_i, ms_l, ms_p, PM]
                    refine At.blk rfl rfl rfl fun sx => ?_
                    simp (decide := true) only [RR, ms_app, toList_some, toList_none, if_true, if_false, true_and, and_true, cond_true, sm0, sm1, sm1l, sm2, lc_lt, lc_gt, lc_eq, Int.toNat_natCast, Int.reduceToNat, Nat.reduceAdd, Nat.reduceEqDiff, Int.reduceLT, Int.reduceEq, Int.reduceNeg, Int.reduceAdd, Int.reduceMul, Nat.reduceMul, ms_n, ms_i, ms_l, ms_p, PM]
                    exact hK
end
