/-! a NIGHT passes -/
def roseI (C : Ct) (w : Sk) (p : Nat) : Int := if w.2.1 p < C.2.1 ∧ C.2.1 ≤ thnP C w p then 1 else 0
def roseP (C : Ct) (w : Sk) : Int := sumN (roseI C w) C.1
def nxW (C : Ct) (w : Sk) (nt : Int) : Sk := (nt, thnP C w, w.2.2.1, w.2.2.2.1, fun _ => -1)
def nxC (C : Ct) (w : Sk) : Sk := nxW C w (if w.1 < 999 then w.1 + 1 else w.1)
def nxM (C : Ct) (w : Sk) : Sk := nxW C w (w.1 + 1)
theorem nxC_eq {C : Ct} {w : Sk} (h : w.1 < 999) : nxC C w = nxM C w := by unfold nxC nxM; rw [if_pos h]
theorem rose_le {C : Ct} {w : Sk} {p : Nat} : 0 ≤ roseI C w p ∧ roseI C w p ≤ 1 := by
  unfold roseI; split <;> omega
theorem roseP_le {C : Ct} {w : Sk} (h : CtV C) : 0 ≤ roseP C w ∧ roseP C w ≤ 7 := by
  have := sumN_le (f := roseI C w) (c := 1) C.1 (fun j _ => rose_le)
  have := h.1
  unfold roseP
  omega
theorem SkV.nx {C : Ct} {w : Sk} {nt : Int} (h : SkV C w) (hn : 0 ≤ nt ∧ nt ≤ 5000) : SkV C (nxW C w nt) := by
  refine ⟨hn, fun p hp => ?_⟩
  have := h.2 p hp
  exact ⟨cutA_le, this.2.1, this.2.2.1, by show (-2 : Int) ≤ -1; decide, by show (-1 : Int) ≤ 20; decide⟩
section
variable {d : Nat} {σ : mM} {K : Option mV → mM → Prop}
theorem x_galeRises28 {p : Nat} (hF : Fix σ) (hp : p < 7) (h1 : σ 29 p < σ 3 8 ∧ σ 3 8 ≤ σ 27 p → K (some (.inl 1)) σ) (h0 : ¬(σ 29 p < σ 3 8 ∧ σ 3 8 ≤ σ 27 p) → K (some (.inl 0)) σ) : Mt (d + 1) 97 [.inr (.inr 21), .inl (p : Int), .inr (.inr 28)] σ K := by
  refine Mt.go (lv := [some (.inr (.inr 21)), some (.inl (p : Int)), some (.inr (.inr 28))]) rfl rfl rfl ?_
  repeat' (first | (exact h1 (by omega)) | (exact h0 (by omega)) | (refine ⟨⟨by omega, by omega⟩, ?_⟩) | split | (refine At.blk rfl rfl rfl fun sx => ?_; simp (decide := true) only [RR, ms_app, toList_some, toList_none, if_true, if_false, true_and, and_true, cond_true, sm0, sm1, sm1l, sm2, lc_lt, lc_gt, lc_eq, Int.toNat_natCast, Int.reduceToNat, Nat.reduceAdd, Nat.reduceEqDiff, Int.reduceLT, Int.reduceEq, Int.reduceNeg, Int.reduceAdd, Int.reduceMul, Nat.reduceMul, ms_n, ms_i, ms_l, ms_p, PX, fxX hF]))
theorem x_pass28 {C : Ct} {w : Sk} (hF : Fix σ) (hC : CtV C) (hw : SkV C w) (hc : CtX σ C) (hs : SkX σ 28 C w) (ht : ∀ p, p < C.1 → σ 27 p = thnP C w p) (hK : ∀ σ', Fr [29, 30] [(28, 2)] σ σ' → SkX σ' 28 C (nxC C w) → K (some (.inl (roseP C w))) σ') : Mt (d + 2) 96 [.inr (.inr 21), .inr (.inr 28)] σ K := by
  refine Mt.go (lv := [some (.inr (.inr 21)), some (.inr (.inr 28)), none, none]) rfl rfl rfl ?_
  have n7 := hC.1
  obtain ⟨s1, s2, s3, s4⟩ := hs
  have s1 : σ 28 2 = w.1 := s1
  refine At.blk rfl rfl rfl fun sx => ?_
  simp (decide := true) only [RR, ms_app, toList_some, toList_none, if_true, if_false, true_and, and_true, cond_true, sm0, sm1, sm1l, sm2, lc_lt, lc_gt, lc_eq, Int.toNat_natCast, Int.reduceToNat, Nat.reduceAdd, Nat.reduceEqDiff, Int.reduceLT, Int.reduceEq, Int.reduceNeg, Int.reduceAdd, Int.reduceMul, Nat.reduceMul, ms_n, ms_i, ms_l, ms_p, PX]
  have loop : ∀ m k : Nat, C.1 - k = m → k ≤ C.1 → ∀ σ', Fr [29, 30] [] σ σ' → (∀ p, p < k → σ' 29 p = thnP C w p ∧ σ' 30 p = 255) → (∀ p, k ≤ p → σ' 29 p = σ 29 p) → At (d + 1) 96 1 [some (.inr (.inr 21)), some (.inr (.inr 28)), some (.inl (sumN (roseI C w) k)), some (.inl (k : Int))] [] σ' K := by
    intro m
    induction m with
    | zero =>
      intro k hk hk2 σ' fr hL hH
      obtain rfl : k = C.1 := by omega
      have hF' := hF.fr fr rfl
      have fin : ∀ nt : Int, nt = (if w.1 < 999 then w.1 + 1 else w.1) → ∀ σ2, Fr [29, 30] [] (mj_set σ' 28 2 nt) σ2 → (∀ p, p < C.1 → σ2 29 p = thnP C w p ∧ σ2 30 p = 255) → σ2 28 2 = nt → At (d + 1) 96 4 [some (.inr (.inr 21)), some (.inr (.inr 28)), some (.inl (sumN (roseI C w) C.1)), some (.inl (C.1 : Int))] [] σ2 K := by
        intro nt hnt σ2 f2 h2 e2
        refine At.blk rfl rfl rfl fun sx => ?_
        simp (decide := true) only [RR, ms_app, toList_some, toList_none, if_true, if_false, true_and, and_true, cond_true, sm0, sm1, sm1l, sm2, lc_lt, lc_gt, lc_eq, Int.toNat_natCast, Int.reduceToNat, Nat.reduceAdd, Nat.reduceEqDiff, Int.reduceLT, Int.reduceEq, Int.reduceNeg, Int.reduceAdd, Int.reduceMul, Nat.reduceMul, ms_n, ms_i, ms_l, ms_p, PX]
        have F2 : Fr [29, 30] [(28, 2)] σ σ2 := ((fr.mono rfl).set rfl).trans (f2.mono rfl)
        refine hK σ2 F2 ⟨?_, ?_, ?_, fun p hp => ?_⟩
        · rw [e2, hnt]; rfl
        · rw [F2 28 3 rfl]; exact s2
        · rw [F2 28 4 rfl]; exact s3
        · rw [F2 28 3 rfl, F2 28 4 rfl]
          exact ⟨(h2 p hp).1, (s4 p hp).2.1, (s4 p hp).2.2.1, Or.inr (Or.inr ⟨(h2 p hp).2, rfl⟩)⟩
      have e1 : σ' 28 2 = w.1 := (fr 28 2 rfl).trans s1
      have e3 : σ' 3 4 = (C.1 : Int) := (fr 3 4 rfl).trans hc.1
      have wv := hw.1
      refine At.blk rfl rfl rfl fun sx => ?_
      simp (decide := true) only [RR, ms_app, toList_some, toList_none, if_true, if_false, true_and, and_true, cond_true, sm0, sm1, sm1l, sm2, lc_lt, lc_gt, lc_eq, Int.toNat_natCast, Int.reduceToNat, Nat.reduceAdd, Nat.reduceEqDiff, Int.reduceLT, Int.reduceEq, Int.reduceNeg, Int.reduceAdd, Int.reduceMul, Nat.reduceMul, ms_n, ms_i, ms_l, ms_p, PX, fxX hF', e3]
      rw [if_neg (by omega)]
      refine At.blk rfl rfl rfl fun sx => ?_
      simp (decide := true) only [RR, ms_app, toList_some, toList_none, if_true, if_false, true_and, and_true, cond_true, sm0, sm1, sm1l, sm2, lc_lt, lc_gt, lc_eq, Int.toNat_natCast, Int.reduceToNat, Nat.reduceAdd, Nat.reduceEqDiff, Int.reduceLT, Int.reduceEq, Int.reduceNeg, Int.reduceAdd, Int.reduceMul, Nat.reduceMul, ms_n, ms_i, ms_l, ms_p, PX, fxX hF', e1]
      by_cases h9 : w.1 < 999
      · rw [if_pos h9, w32_small (by omega) (by omega)]
        refine fin (w.1 + 1) (by rw [if_pos h9]) _ Fr.same (fun p hp => ?_) rfl
        rw [ms_row (by decide), ms_row (by decide)]
        exact hL p hp
      · rw [if_neg h9]
        refine fin w.1 (by rw [if_neg h9]) σ' ?_ hL e1
        rw [← e1, ms_self]
        exact Fr.same
    | succ m ih =>
      intro k hk hk2 σ' fr hL hH
      have hk3 : k < C.1 := by omega
      have hF' := hF.fr fr rfl
      have e3 : σ' 3 4 = (C.1 : Int) := (fr 3 4 rfl).trans hc.1
      have e8 : σ' 3 8 = C.2.1 := (fr 3 8 rfl).trans hc.2.1
      have eA : σ' 29 k = w.2.1 k := (hH k (Nat.le_refl _)).trans (s4 k hk3).1
      have eT : σ' 27 k = thnP C w k := (fr 27 k rfl).trans (ht k hk3)
      have b := sumN_le (f := roseI C w) (c := 1) k (fun j _ => rose_le)
      have two : ∀ v : Int, v = sumN (roseI C w) (k + 1) → At (d + 1) 96 2 [some (.inr (.inr 21)), some (.inr (.inr 28)), some (.inl v), some (.inl (k : Int))] [] σ' K := by
        intro v hv
        refine At.blk rfl rfl rfl fun sx => ?_
        simp (decide := true) only [RR, ms_app, toList_some, toList_none, if_true, if_false, true_and, and_true, cond_true, sm0, sm1, sm1l, sm2, lc_lt, lc_gt, lc_eq, Int.toNat_natCast, Int.reduceToNat, Nat.reduceAdd, Nat.reduceEqDiff, Int.reduceLT, Int.reduceEq, Int.reduceNeg, Int.reduceAdd, Int.reduceMul, Nat.reduceMul, ms_n, ms_i, ms_l, ms_p, PX, fxX hF', eT]
        refine ⟨⟨by omega, by omega⟩, ⟨by omega, by omega⟩, ⟨by omega, by omega⟩, ?_⟩
        rw [w32_small (by omega) (by omega), hv]
        refine ih (k + 1) (by omega) (by omega) _ ((fr.setr rfl).setr rfl) (fun p hp => ?_) (fun p hp => ?_)
        · rw [ms_row (by decide), ms_app, if_pos rfl, ms_app, if_pos rfl]
          by_cases e : p = k
          · rw [if_pos e, if_pos e, e]; exact ⟨rfl, rfl⟩
          · rw [if_neg e, if_neg e, ms_row (by decide)]
            exact hL p (by omega)
        · rw [ms_row (by decide), ms_app, if_pos rfl, if_neg (by omega)]
          exact hH p (by omega)
      refine At.blk rfl rfl rfl fun sx => ?_
      simp (decide := true) only [RR, ms_app, toList_some, toList_none, if_true, if_false, true_and, and_true, cond_true, sm0, sm1, sm1l, sm2, lc_lt, lc_gt, lc_eq, Int.toNat_natCast, Int.reduceToNat, Nat.reduceAdd, Nat.reduceEqDiff, Int.reduceLT, Int.reduceEq, Int.reduceNeg, Int.reduceAdd, Int.reduceMul, Nat.reduceMul, ms_n, ms_i, ms_l, ms_p, PX, fxX hF', e3]
      rw [if_pos (by omega)]
      refine cal_of rfl (x_galeRises28 hF' (by omega) (fun hh => ?_) (fun hh => ?_))
      · simp (decide := true) only [RR, ms_app, toList_some, toList_none, if_true, if_false, true_and, and_true, cond_true, sm0, sm1, sm1l, sm2, lc_lt, lc_gt, lc_eq, Int.toNat_natCast, Int.reduceToNat, Nat.reduceAdd, Nat.reduceEqDiff, Int.reduceLT, Int.reduceEq, Int.reduceNeg, Int.reduceAdd, Int.reduceMul, Nat.reduceMul, ms_n, ms_i, ms_l, ms_p, PX]
        refine two _ ?_
        rw [eA, e8, eT] at hh
        rw [w32_small (by omega) (by omega)]
        simp only [sumN]
        rw [show roseI C w k = 1 by unfold roseI; rw [if_pos hh]]
      · simp (decide := true) only [RR, ms_app, toList_some, toList_none, if_true, if_false, true_and, and_true, cond_true, sm0, sm1, sm1l, sm2, lc_lt, lc_gt, lc_eq, Int.toNat_natCast, Int.reduceToNat, Nat.reduceAdd, Nat.reduceEqDiff, Int.reduceLT, Int.reduceEq, Int.reduceNeg, Int.reduceAdd, Int.reduceMul, Nat.reduceMul, ms_n, ms_i, ms_l, ms_p, PX]
        refine two _ ?_
        rw [eA, e8, eT] at hh
        simp only [sumN]
        rw [show roseI C w k = 0 by unfold roseI; rw [if_neg hh]]
        omega
  exact loop C.1 0 rfl (by omega) σ Fr.same (fun p hp => by omega) (fun p hp => rfl)
/-- foreseen, then it passes -/
def xw28L : List Nat := [22, 23, 24, 25, 26, 27, 29, 30]
def xw28T : List (Nat × Nat) := [(21, 4), (28, 2)]
theorem x_galeRises34 {p : Nat} (hF : Fix σ) (hp : p < 7) (h1 : σ 35 p < σ 3 8 ∧ σ 3 8 ≤ σ 27 p → K (some (.inl 1)) σ) (h0 : ¬(σ 35 p < σ 3 8 ∧ σ 3 8 ≤ σ 27 p) → K (some (.inl 0)) σ) : Mt (d + 1) 97 [.inr (.inr 21), .inl (p : Int), .inr (.inr 34)] σ K := by
  refine Mt.go (lv := [some (.inr (.inr 21)), some (.inl (p : Int)), some (.inr (.inr 34))]) rfl rfl rfl ?_
  repeat' (first | (exact h1 (by omega)) | (exact h0 (by omega)) | (refine ⟨⟨by omega, by omega⟩, ?_⟩) | split | (refine At.blk rfl rfl rfl fun sx => ?_; simp (decide := true) only [RR, ms_app, toList_some, toList_none, if_true, if_false, true_and, and_true, cond_true, sm0, sm1, sm1l, sm2, lc_lt, lc_gt, lc_eq, Int.toNat_natCast, Int.reduceToNat, Nat.reduceAdd, Nat.reduceEqDiff, Int.reduceLT, Int.reduceEq, Int.reduceNeg, Int.reduceAdd, Int.reduceMul, Nat.reduceMul, ms_n, ms_i, ms_l, ms_p, PX, fxX hF]))
theorem x_pass34 {C : Ct} {w : Sk} (hF : Fix σ) (hC : CtV C) (hw : SkV C w) (hc : CtX σ C) (hs : SkX σ 34 C w) (ht : ∀ p, p < C.1 → σ 27 p = thnP C w p) (hK : ∀ σ', Fr [35, 36] [(34, 2)] σ σ' → SkX σ' 34 C (nxC C w) → K (some (.inl (roseP C w))) σ') : Mt (d + 2) 96 [.inr (.inr 21), .inr (.inr 34)] σ K := by
  refine Mt.go (lv := [some (.inr (.inr 21)), some (.inr (.inr 34)), none, none]) rfl rfl rfl ?_
  have n7 := hC.1
  obtain ⟨s1, s2, s3, s4⟩ := hs
  have s1 : σ 34 2 = w.1 := s1
  refine At.blk rfl rfl rfl fun sx => ?_
  simp (decide := true) only [RR, ms_app, toList_some, toList_none, if_true, if_false, true_and, and_true, cond_true, sm0, sm1, sm1l, sm2, lc_lt, lc_gt, lc_eq, Int.toNat_natCast, Int.reduceToNat, Nat.reduceAdd, Nat.reduceEqDiff, Int.reduceLT, Int.reduceEq, Int.reduceNeg, Int.reduceAdd, Int.reduceMul, Nat.reduceMul, ms_n, ms_i, ms_l, ms_p, PX]
  have loop : ∀ m k : Nat, C.1 - k = m → k ≤ C.1 → ∀ σ', Fr [35, 36] [] σ σ' → (∀ p, p < k → σ' 35 p = thnP C w p ∧ σ' 36 p = 255) → (∀ p, k ≤ p → σ' 35 p = σ 35 p) → At (d + 1) 96 1 [some (.inr (.inr 21)), some (.inr (.inr 34)), some (.inl (sumN (roseI C w) k)), some (.inl (k : Int))] [] σ' K := by
    intro m
    induction m with
    | zero =>
      intro k hk hk2 σ' fr hL hH
      obtain rfl : k = C.1 := by omega
      have hF' := hF.fr fr rfl
      have fin : ∀ nt : Int, nt = (if w.1 < 999 then w.1 + 1 else w.1) → ∀ σ2, Fr [35, 36] [] (mj_set σ' 34 2 nt) σ2 → (∀ p, p < C.1 → σ2 35 p = thnP C w p ∧ σ2 36 p = 255) → σ2 34 2 = nt → At (d + 1) 96 4 [some (.inr (.inr 21)), some (.inr (.inr 34)), some (.inl (sumN (roseI C w) C.1)), some (.inl (C.1 : Int))] [] σ2 K := by
        intro nt hnt σ2 f2 h2 e2
        refine At.blk rfl rfl rfl fun sx => ?_
        simp (decide := true) only [RR, ms_app, toList_some, toList_none, if_true, if_false, true_and, and_true, cond_true, sm0, sm1, sm1l, sm2, lc_lt, lc_gt, lc_eq, Int.toNat_natCast, Int.reduceToNat, Nat.reduceAdd, Nat.reduceEqDiff, Int.reduceLT, Int.reduceEq, Int.reduceNeg, Int.reduceAdd, Int.reduceMul, Nat.reduceMul, ms_n, ms_i, ms_l, ms_p, PX]
        have F2 : Fr [35, 36] [(34, 2)] σ σ2 := ((fr.mono rfl).set rfl).trans (f2.mono rfl)
        refine hK σ2 F2 ⟨?_, ?_, ?_, fun p hp => ?_⟩
        · rw [e2, hnt]; rfl
        · rw [F2 34 3 rfl]; exact s2
        · rw [F2 34 4 rfl]; exact s3
        · rw [F2 34 3 rfl, F2 34 4 rfl]
          exact ⟨(h2 p hp).1, (s4 p hp).2.1, (s4 p hp).2.2.1, Or.inr (Or.inr ⟨(h2 p hp).2, rfl⟩)⟩
      have e1 : σ' 34 2 = w.1 := (fr 34 2 rfl).trans s1
      have e3 : σ' 3 4 = (C.1 : Int) := (fr 3 4 rfl).trans hc.1
      have wv := hw.1
      refine At.blk rfl rfl rfl fun sx => ?_
      simp (decide := true) only [RR, ms_app, toList_some, toList_none, if_true, if_false, true_and, and_true, cond_true, sm0, sm1, sm1l, sm2, lc_lt, lc_gt, lc_eq, Int.toNat_natCast, Int.reduceToNat, Nat.reduceAdd, Nat.reduceEqDiff, Int.reduceLT, Int.reduceEq, Int.reduceNeg, Int.reduceAdd, Int.reduceMul, Nat.reduceMul, ms_n, ms_i, ms_l, ms_p, PX, fxX hF', e3]
      rw [if_neg (by omega)]
      refine At.blk rfl rfl rfl fun sx => ?_
      simp (decide := true) only [RR, ms_app, toList_some, toList_none, if_true, if_false, true_and, and_true, cond_true, sm0, sm1, sm1l, sm2, lc_lt, lc_gt, lc_eq, Int.toNat_natCast, Int.reduceToNat, Nat.reduceAdd, Nat.reduceEqDiff, Int.reduceLT, Int.reduceEq, Int.reduceNeg, Int.reduceAdd, Int.reduceMul, Nat.reduceMul, ms_n, ms_i, ms_l, ms_p, PX, fxX hF', e1]
      by_cases h9 : w.1 < 999
      · rw [if_pos h9, w32_small (by omega) (by omega)]
        refine fin (w.1 + 1) (by rw [if_pos h9]) _ Fr.same (fun p hp => ?_) rfl
        rw [ms_row (by decide), ms_row (by decide)]
        exact hL p hp
      · rw [if_neg h9]
        refine fin w.1 (by rw [if_neg h9]) σ' ?_ hL e1
        rw [← e1, ms_self]
        exact Fr.same
    | succ m ih =>
      intro k hk hk2 σ' fr hL hH
      have hk3 : k < C.1 := by omega
      have hF' := hF.fr fr rfl
      have e3 : σ' 3 4 = (C.1 : Int) := (fr 3 4 rfl).trans hc.1
      have e8 : σ' 3 8 = C.2.1 := (fr 3 8 rfl).trans hc.2.1
      have eA : σ' 35 k = w.2.1 k := (hH k (Nat.le_refl _)).trans (s4 k hk3).1
      have eT : σ' 27 k = thnP C w k := (fr 27 k rfl).trans (ht k hk3)
      have b := sumN_le (f := roseI C w) (c := 1) k (fun j _ => rose_le)
      have two : ∀ v : Int, v = sumN (roseI C w) (k + 1) → At (d + 1) 96 2 [some (.inr (.inr 21)), some (.inr (.inr 34)), some (.inl v), some (.inl (k : Int))] [] σ' K := by
        intro v hv
        refine At.blk rfl rfl rfl fun sx => ?_
        simp (decide := true) only [RR, ms_app, toList_some, toList_none, if_true, if_false, true_and, and_true, cond_true, sm0, sm1, sm1l, sm2, lc_lt, lc_gt, lc_eq, Int.toNat_natCast, Int.reduceToNat, Nat.reduceAdd, Nat.reduceEqDiff, Int.reduceLT, Int.reduceEq, Int.reduceNeg, Int.reduceAdd, Int.reduceMul, Nat.reduceMul, ms_n, ms_i, ms_l, ms_p, PX, fxX hF', eT]
        refine ⟨⟨by omega, by omega⟩, ⟨by omega, by omega⟩, ⟨by omega, by omega⟩, ?_⟩
        rw [w32_small (by omega) (by omega), hv]
        refine ih (k + 1) (by omega) (by omega) _ ((fr.setr rfl).setr rfl) (fun p hp => ?_) (fun p hp => ?_)
        · rw [ms_row (by decide), ms_app, if_pos rfl, ms_app, if_pos rfl]
          by_cases e : p = k
          · rw [if_pos e, if_pos e, e]; exact ⟨rfl, rfl⟩
          · rw [if_neg e, if_neg e, ms_row (by decide)]
            exact hL p (by omega)
        · rw [ms_row (by decide), ms_app, if_pos rfl, if_neg (by omega)]
          exact hH p (by omega)
      refine At.blk rfl rfl rfl fun sx => ?_
      simp (decide := true) only [RR, ms_app, toList_some, toList_none, if_true, if_false, true_and, and_true, cond_true, sm0, sm1, sm1l, sm2, lc_lt, lc_gt, lc_eq, Int.toNat_natCast, Int.reduceToNat, Nat.reduceAdd, Nat.reduceEqDiff, Int.reduceLT, Int.reduceEq, Int.reduceNeg, Int.reduceAdd, Int.reduceMul, Nat.reduceMul, ms_n, ms_i, ms_l, ms_p, PX, fxX hF', e3]
      rw [if_pos (by omega)]
      refine cal_of rfl (x_galeRises34 hF' (by omega) (fun hh => ?_) (fun hh => ?_))
      · simp (decide := true) only [RR, ms_app, toList_some, toList_none, if_true, if_false, true_and, and_true, cond_true, sm0, sm1, sm1l, sm2, lc_lt, lc_gt, lc_eq, Int.toNat_natCast, Int.reduceToNat, Nat.reduceAdd, Nat.reduceEqDiff, Int.reduceLT, Int.reduceEq, Int.reduceNeg, Int.reduceAdd, Int.reduceMul, Nat.reduceMul, ms_n, ms_i, ms_l, ms_p, PX]
        refine two _ ?_
        rw [eA, e8, eT] at hh
        rw [w32_small (by omega) (by omega)]
        simp only [sumN]
        rw [show roseI C w k = 1 by unfold roseI; rw [if_pos hh]]
      · simp (decide := true) only [RR, ms_app, toList_some, toList_none, if_true, if_false, true_and, and_true, cond_true, sm0, sm1, sm1l, sm2, lc_lt, lc_gt, lc_eq, Int.toNat_natCast, Int.reduceToNat, Nat.reduceAdd, Nat.reduceEqDiff, Int.reduceLT, Int.reduceEq, Int.reduceNeg, Int.reduceAdd, Int.reduceMul, Nat.reduceMul, ms_n, ms_i, ms_l, ms_p, PX]
        refine two _ ?_
        rw [eA, e8, eT] at hh
        simp only [sumN]
        rw [show roseI C w k = 0 by unfold roseI; rw [if_neg hh]]
        omega
  exact loop C.1 0 rfl (by omega) σ Fr.same (fun p hp => by omega) (fun p hp => rfl)
/-- foreseen, then it passes -/
def xw34L : List Nat := [22, 23, 24, 25, 26, 27, 35, 36]
def xw34T : List (Nat × Nat) := [(21, 4), (34, 2)]
end
