/-! tonight -/
def tonV (C : Ct) (w : Sk) (a b : Int) : Int := if 0 ≤ a ∧ a < C.1 then (if b = 0 then readP C w a.toNat else if b = 1 then rivP C w a.toNat else if b = 2 then tolP C w a.toNat else if b = 3 then thnP C w a.toNat else -1) else -1
section
variable {d : Nat} {σ : mM} {K : Option mV → mM → Prop} {C : Ct} {w : Sk} {l : Kp}
theorem x_tonight {a b : Int} (hF : Fix σ) (hW : Wrl σ C w l) (hK : ∀ σ', Fr xrL xrT σ σ' → K (some (.inl (tonV C w a b))) σ') : Mt (d + 6) 113 [.inr (.inr 0), .inl a, .inl b] σ K := by
  refine Mt.go (lv := [some (.inr (.inr 0)), some (.inl a), some (.inl b)]) rfl rfl rfl ?_
  obtain ⟨hC, hcx, hcm, hw, hsx, hsm, hkx, hkm, hkv, h9⟩ := hW
  have n7 := hC.1
  unfold tonV at hK
  refine At.blk rfl rfl rfl fun sx => ?_
  simp (decide := true) only [RR, ms_app, toList_some, toList_none, if_true, if_false, true_and, and_true, cond_true, sm0, sm1, sm1l, sm2, lc_lt, lc_gt, lc_eq, Int.toNat_natCast, Int.reduceToNat, Nat.reduceAdd, Nat.reduceEqDiff, Int.reduceLT, Int.reduceEq, Int.reduceNeg, Int.reduceAdd, Int.reduceMul, Nat.reduceMul, ms_n, ms_i, ms_l, ms_p, PX, fxX hF]
  refine cal_of rfl (x_holds3 (fun hh => ?_) (fun hh => ?_))
  · rw [hcx.1] at hh
    obtain ⟨p, rfl⟩ := Int.eq_ofNat_of_zero_le hh.1
    have hp : p < C.1 := by omega
    rw [if_pos hh, Int.toNat_natCast] at hK
    simp (decide := true) only [RR, ms_app, toList_some, toList_none, if_true, if_false, true_and, and_true, cond_true, sm0, sm1, sm1l, sm2, lc_lt, lc_gt, lc_eq, Int.toNat_natCast, Int.reduceToNat, Nat.reduceAdd, Nat.reduceEqDiff, Int.reduceLT, Int.reduceEq, Int.reduceNeg, Int.reduceAdd, Int.reduceMul, Nat.reduceMul, ms_n, ms_i, ms_l, ms_p, PX]
    refine At.blk rfl rfl rfl fun sx => ?_
    simp (decide := true) only [RR, ms_app, toList_some, toList_none, if_true, if_false, true_and, and_true, cond_true, sm0, sm1, sm1l, sm2, lc_lt, lc_gt, lc_eq, Int.toNat_natCast, Int.reduceToNat, Nat.reduceAdd, Nat.reduceEqDiff, Int.reduceLT, Int.reduceEq, Int.reduceNeg, Int.reduceAdd, Int.reduceMul, Nat.reduceMul, ms_n, ms_i, ms_l, ms_p, PX, fxX hF]
    refine cal_of rfl (x_foresee28 hF hC hw hcx hsx (fun σ0 f0 hE h0 => ?_))
    have hF0 := hF.fr f0 rfl
    obtain ⟨q1, q2, q3⟩ := h0 p hp
    simp (decide := true) only [RR, ms_app, toList_some, toList_none, if_true, if_false, true_and, and_true, cond_true, sm0, sm1, sm1l, sm2, lc_lt, lc_gt, lc_eq, Int.toNat_natCast, Int.reduceToNat, Nat.reduceAdd, Nat.reduceEqDiff, Int.reduceLT, Int.reduceEq, Int.reduceNeg, Int.reduceAdd, Int.reduceMul, Nat.reduceMul, ms_n, ms_i, ms_l, ms_p, PX]
    by_cases b0 : b = 0
    · rw [if_pos b0] at hK ⊢
      refine At.blk rfl rfl rfl fun sx => ?_
      simp (decide := true) only [RR, ms_app, toList_some, toList_none, if_true, if_false, true_and, and_true, cond_true, sm0, sm1, sm1l, sm2, lc_lt, lc_gt, lc_eq, Int.toNat_natCast, Int.reduceToNat, Nat.reduceAdd, Nat.reduceEqDiff, Int.reduceLT, Int.reduceEq, Int.reduceNeg, Int.reduceAdd, Int.reduceMul, Nat.reduceMul, ms_n, ms_i, ms_l, ms_p, PX, fxX hF0, q1]
      exact ⟨⟨by omega, by omega⟩, hK σ0 (f0.mono rfl)⟩
    · rw [if_neg b0] at hK ⊢
      by_cases b1 : b = 1
      · rw [if_pos b1] at hK ⊢
        refine At.blk rfl rfl rfl fun sx => ?_
        simp (decide := true) only [RR, ms_app, toList_some, toList_none, if_true, if_false, true_and, and_true, cond_true, sm0, sm1, sm1l, sm2, lc_lt, lc_gt, lc_eq, Int.toNat_natCast, Int.reduceToNat, Nat.reduceAdd, Nat.reduceEqDiff, Int.reduceLT, Int.reduceEq, Int.reduceNeg, Int.reduceAdd, Int.reduceMul, Nat.reduceMul, ms_n, ms_i, ms_l, ms_p, PX, fxX hF0]
        refine cal_of rfl (x_rivalFor28 hF0 hC hw hp (hcx.xw f0) (hsx.xw28 f0) hE (fun σ1 f1 => ?_))
        simp (decide := true) only [RR, ms_app, toList_some, toList_none, if_true, if_false, true_and, and_true, cond_true, sm0, sm1, sm1l, sm2, lc_lt, lc_gt, lc_eq, Int.toNat_natCast, Int.reduceToNat, Nat.reduceAdd, Nat.reduceEqDiff, Int.reduceLT, Int.reduceEq, Int.reduceNeg, Int.reduceAdd, Int.reduceMul, Nat.reduceMul, ms_n, ms_i, ms_l, ms_p, PX]
        exact hK σ1 ((f0.mono rfl).trans (f1.mono rfl))
      · rw [if_neg b1] at hK ⊢
        by_cases b2 : b = 2
        · rw [if_pos b2] at hK ⊢
          refine At.blk rfl rfl rfl fun sx => ?_
          simp (decide := true) only [RR, ms_app, toList_some, toList_none, if_true, if_false, true_and, and_true, cond_true, sm0, sm1, sm1l, sm2, lc_lt, lc_gt, lc_eq, Int.toNat_natCast, Int.reduceToNat, Nat.reduceAdd, Nat.reduceEqDiff, Int.reduceLT, Int.reduceEq, Int.reduceNeg, Int.reduceAdd, Int.reduceMul, Nat.reduceMul, ms_n, ms_i, ms_l, ms_p, PX, fxX hF0, q2]
          exact ⟨⟨by omega, by omega⟩, hK σ0 (f0.mono rfl)⟩
        · rw [if_neg b2] at hK ⊢
          by_cases b3 : b = 3
          · rw [if_pos b3] at hK ⊢
            refine At.blk rfl rfl rfl fun sx => ?_
            simp (decide := true) only [RR, ms_app, toList_some, toList_none, if_true, if_false, true_and, and_true, cond_true, sm0, sm1, sm1l, sm2, lc_lt, lc_gt, lc_eq, Int.toNat_natCast, Int.reduceToNat, Nat.reduceAdd, Nat.reduceEqDiff, Int.reduceLT, Int.reduceEq, Int.reduceNeg, Int.reduceAdd, Int.reduceMul, Nat.reduceMul, ms_n, ms_i, ms_l, ms_p, PX, fxX hF0, q3]
            exact ⟨⟨by omega, by omega⟩, hK σ0 (f0.mono rfl)⟩
          · rw [if_neg b3] at hK ⊢
            refine At.blk rfl rfl rfl fun sx => ?_
            simp (decide := true) only [RR, ms_app, toList_some, toList_none, if_true, if_false, true_and, and_true, cond_true, sm0, sm1, sm1l, sm2, lc_lt, lc_gt, lc_eq, Int.toNat_natCast, Int.reduceToNat, Nat.reduceAdd, Nat.reduceEqDiff, Int.reduceLT, Int.reduceEq, Int.reduceNeg, Int.reduceAdd, Int.reduceMul, Nat.reduceMul, ms_n, ms_i, ms_l, ms_p, PX]
            exact hK σ0 (f0.mono rfl)
  · rw [hcx.1] at hh
    rw [if_neg hh] at hK
    simp (decide := true) only [RR, ms_app, toList_some, toList_none, if_true, if_false, true_and, and_true, cond_true, sm0, sm1, sm1l, sm2, lc_lt, lc_gt, lc_eq, Int.toNat_natCast, Int.reduceToNat, Nat.reduceAdd, Nat.reduceEqDiff, Int.reduceLT, Int.reduceEq, Int.reduceNeg, Int.reduceAdd, Int.reduceMul, Nat.reduceMul, ms_n, ms_i, ms_l, ms_p, PX]
    exact hK σ Fr.same
theorem m_tonight {a b : Int} (hF : Fix σ) (hW : Wrl σ C w l) (hK : ∀ σ', Fr mrL mrT σ σ' → K (some (.inl (tonV C w a b))) σ') : Mt (d + 9) 206 [.inr (.inr 146), .inl a, .inl b] σ K := by
  refine Mt.go (lv := [some (.inr (.inr 146)), some (.inl a), some (.inl b)]) rfl rfl rfl ?_
  obtain ⟨hC, hcx, hcm, hw, hsx, hsm, hkx, hkm, hkv, h9⟩ := hW
  have n7 := hC.1
  unfold tonV at hK
  refine At.blk rfl rfl rfl fun sx => ?_
  simp (decide := true) only [RR, ms_app, toList_some, toList_none, if_true, if_false, true_and, and_true, cond_true, sm0, sm1, sm1l, sm2, lc_lt, lc_gt, lc_eq, Int.toNat_natCast, Int.reduceToNat, Nat.reduceAdd, Nat.reduceEqDiff, Int.reduceLT, Int.reduceEq, Int.reduceNeg, Int.reduceAdd, Int.reduceMul, Nat.reduceMul, ms_n, ms_i, ms_l, ms_p, PM, fxM hF]
  refine cal_of rfl (m_isPart hF (by rw [hcm.1]; omega) (fun hh => ?_) (fun hh => ?_))
  · rw [hcm.1] at hh
    obtain ⟨p, rfl⟩ := Int.eq_ofNat_of_zero_le hh.1
    have hp : p < C.1 := by omega
    rw [if_pos hh, Int.toNat_natCast] at hK
    simp (decide := true) only [RR, ms_app, toList_some, toList_none, if_true, if_false, true_and, and_true, cond_true, sm0, sm1, sm1l, sm2, lc_lt, lc_gt, lc_eq, Int.toNat_natCast, Int.reduceToNat, Nat.reduceAdd, Nat.reduceEqDiff, Int.reduceLT, Int.reduceEq, Int.reduceNeg, Int.reduceAdd, Int.reduceMul, Nat.reduceMul, ms_n, ms_i, ms_l, ms_p, PM]
    refine At.blk rfl rfl rfl fun sx => ?_
    simp (decide := true) only [RR, ms_app, toList_some, toList_none, if_true, if_false, true_and, and_true, cond_true, sm0, sm1, sm1l, sm2, lc_lt, lc_gt, lc_eq, Int.toNat_natCast, Int.reduceToNat, Nat.reduceAdd, Nat.reduceEqDiff, Int.reduceLT, Int.reduceEq, Int.reduceNeg, Int.reduceAdd, Int.reduceMul, Nat.reduceMul, ms_n, ms_i, ms_l, ms_p, PM, fxM hF]
    refine cal_of rfl (m_laysNight hF hC hw hcm hsm (fun σ0 f0 h0 h1 => ?_))
    have hF0 := hF.fr f0 rfl
    obtain ⟨q1, q2, q3⟩ := h0 p hp
    have q4 := h1 p hp
    simp (decide := true) only [RR, ms_app, toList_some, toList_none, if_true, if_false, true_and, and_true, cond_true, sm0, sm1, sm1l, sm2, lc_lt, lc_gt, lc_eq, Int.toNat_natCast, Int.reduceToNat, Nat.reduceAdd, Nat.reduceEqDiff, Int.reduceLT, Int.reduceEq, Int.reduceNeg, Int.reduceAdd, Int.reduceMul, Nat.reduceMul, ms_n, ms_i, ms_l, ms_p, PM]
    by_cases b0 : b = 0
    · rw [if_pos b0] at hK ⊢
      refine At.blk rfl rfl rfl fun sx => ?_
      simp (decide := true) only [RR, ms_app, toList_some, toList_none, if_true, if_false, true_and, and_true, cond_true, sm0, sm1, sm1l, sm2, lc_lt, lc_gt, lc_eq, Int.toNat_natCast, Int.reduceToNat, Nat.reduceAdd, Nat.reduceEqDiff, Int.reduceLT, Int.reduceEq, Int.reduceNeg, Int.reduceAdd, Int.reduceMul, Nat.reduceMul, ms_n, ms_i, ms_l, ms_p, PM, fxM hF0, q1]
      exact ⟨⟨by omega, by omega⟩, hK σ0 (f0.mono rfl)⟩
    · rw [if_neg b0] at hK ⊢
      by_cases b1 : b = 1
      · rw [if_pos b1] at hK ⊢
        refine At.blk rfl rfl rfl fun sx => ?_
        simp (decide := true) only [RR, ms_app, toList_some, toList_none, if_true, if_false, true_and, and_true, cond_true, sm0, sm1, sm1l, sm2, lc_lt, lc_gt, lc_eq, Int.toNat_natCast, Int.reduceToNat, Nat.reduceAdd, Nat.reduceEqDiff, Int.reduceLT, Int.reduceEq, Int.reduceNeg, Int.reduceAdd, Int.reduceMul, Nat.reduceMul, ms_n, ms_i, ms_l, ms_p, PM, fxM hF0, q2]
        exact ⟨⟨by omega, by omega⟩, hK σ0 (f0.mono rfl)⟩
      · rw [if_neg b1] at hK ⊢
        by_cases b2 : b = 2
        · rw [if_pos b2] at hK ⊢
          refine At.blk rfl rfl rfl fun sx => ?_
          simp (decide := true) only [RR, ms_app, toList_some, toList_none, if_true, if_false, true_and, and_true, cond_true, sm0, sm1, sm1l, sm2, lc_lt, lc_gt, lc_eq, Int.toNat_natCast, Int.reduceToNat, Nat.reduceAdd, Nat.reduceEqDiff, Int.reduceLT, Int.reduceEq, Int.reduceNeg, Int.reduceAdd, Int.reduceMul, Nat.reduceMul, ms_n, ms_i, ms_l, ms_p, PM, fxM hF0, q3]
          exact ⟨⟨by omega, by omega⟩, hK σ0 (f0.mono rfl)⟩
        · rw [if_neg b2] at hK ⊢
          by_cases b3 : b = 3
          · rw [if_pos b3] at hK ⊢
            refine At.blk rfl rfl rfl fun sx => ?_
            simp (decide := true) only [RR, ms_app, toList_some, toList_none, if_true, if_false, true_and, and_true, cond_true, sm0, sm1, sm1l, sm2, lc_lt, lc_gt, lc_eq, Int.toNat_natCast, Int.reduceToNat, Nat.reduceAdd, Nat.reduceEqDiff, Int.reduceLT, Int.reduceEq, Int.reduceNeg, Int.reduceAdd, Int.reduceMul, Nat.reduceMul, ms_n, ms_i, ms_l, ms_p, PM, fxM hF0, q4]
            exact ⟨⟨by omega, by omega⟩, hK σ0 (f0.mono rfl)⟩
          · rw [if_neg b3] at hK ⊢
            refine At.blk rfl rfl rfl fun sx => ?_
            simp (decide := true) only [RR, ms_app, toList_some, toList_none, if_true, if_false, true_and, and_true, cond_true, sm0, sm1, sm1l, sm2, lc_lt, lc_gt, lc_eq, Int.toNat_natCast, Int.reduceToNat, Nat.reduceAdd, Nat.reduceEqDiff, Int.reduceLT, Int.reduceEq, Int.reduceNeg, Int.reduceAdd, Int.reduceMul, Nat.reduceMul, ms_n, ms_i, ms_l, ms_p, PM]
            exact hK σ0 (f0.mono rfl)
  · rw [hcm.1] at hh
    rw [if_neg hh] at hK
    simp (decide := true) only [RR, ms_app, toList_some, toList_none, if_true, if_false, true_and, and_true, cond_true, sm0, sm1, sm1l, sm2, lc_lt, lc_gt, lc_eq, Int.toNat_natCast, Int.reduceToNat, Nat.reduceAdd, Nat.reduceEqDiff, Int.reduceLT, Int.reduceEq, Int.reduceNeg, Int.reduceAdd, Int.reduceMul, Nat.reduceMul, ms_n, ms_i, ms_l, ms_p, PM]
    exact hK σ Fr.same
end
theorem p_tonight {σ : mM} (h : Inv σ) (a b : Int) (_ : inR a) (_ : inR b) : PairI Inv 113 206 [.inl a, .inl b] σ := by
  obtain ⟨C, w, l, hW⟩ := h.wrl
  exact ro_pair (v := tonV C w a b) h hW (x_tonight h.1 hW (fun σ' f => ⟨rfl, f.mono rfl⟩)) (fun σ1 h1 hW1 _ => m_tonight h1.1 hW1 (fun σ' f => ⟨rfl, f.mono rfl⟩))
/-! later -/
def latV (C : Ct) (w : Sk) (a n b : Int) : Int := if (0 ≤ a ∧ a < C.1) ∧ (0 ≤ n ∧ n ≤ 60 ∧ w.1 + n ≤ 999) ∧ (0 ≤ b ∧ b ≤ 1) then (if b = 0 then (ntM C w n.toNat).2.1 a.toNat else galesP C (ntM C w n.toNat)) else -1
section
variable {d : Nat} {σ : mM} {K : Option mV → mM → Prop} {C : Ct} {w : Sk} {l : Kp}
theorem x_skyBehind {n : Nat} (hF : Fix σ) (hC : CtV C) (hcx : CtX σ C) (hw : SkV C w) (hsx : SkX σ 28 C w) (hn : n ≤ 100) (h9 : w.1 + n ≤ 999) (hK : ∀ σ', Fr xrL xrT σ σ' → SkX σ' 34 C (ntM C w n) → K (some (.inr (.inr 34))) σ') : Mt (d + 5) 17 [.inr (.inr 33), .inl (n : Int)] σ K := by
  refine Mt.go (lv := [some (.inr (.inr 33)), some (.inl (n : Int)), none]) rfl rfl rfl ?_
  have n7 := hC.1
  refine At.blk rfl rfl rfl fun sx => ?_
  simp (decide := true) only [RR, ms_app, toList_some, toList_none, if_true, if_false, true_and, and_true, cond_true, sm0, sm1, sm1l, sm2, lc_lt, lc_gt, lc_eq, Int.toNat_natCast, Int.reduceToNat, Nat.reduceAdd, Nat.reduceEqDiff, Int.reduceLT, Int.reduceEq, Int.reduceNeg, Int.reduceAdd, Int.reduceMul, Nat.reduceMul, ms_n, ms_i, ms_l, ms_p, PX, fxX hF]
  refine cal_of rfl (x_skyCopy hF rfl rfl (by omega) ?_)
  simp (decide := true) only [RR, ms_app, toList_some, toList_none, if_true, if_false, true_and, and_true, cond_true, sm0, sm1, sm1l, sm2, lc_lt, lc_gt, lc_eq, Int.toNat_natCast, Int.reduceToNat, Nat.reduceAdd, Nat.reduceEqDiff, Int.reduceLT, Int.reduceEq, Int.reduceNeg, Int.reduceAdd, Int.reduceMul, Nat.reduceMul, ms_n, ms_i, ms_l, ms_p, PX]
  have loop : ∀ m k : Nat, n - k = m → k ≤ n → ∀ σ', Fr xrL xrT σ σ' → SkX σ' 34 C (ntM C w k) → At (d + 4) 17 1 [some (.inr (.inr 33)), some (.inl (n : Int)), some (.inl (k : Int))] [] σ' K := by
    intro m
    induction m with
    | zero =>
      intro k hk hk2 σ' fr s
      obtain rfl : k = n := by omega
      have hF' := hF.fr fr rfl
      refine At.blk rfl rfl rfl fun sx => ?_
      simp (decide := true) only [RR, ms_app, toList_some, toList_none, if_true, if_false, true_and, and_true, cond_true, sm0, sm1, sm1l, sm2, lc_lt, lc_gt, lc_eq, Int.toNat_natCast, Int.reduceToNat, Nat.reduceAdd, Nat.reduceEqDiff, Int.reduceLT, Int.reduceEq, Int.reduceNeg, Int.reduceAdd, Int.reduceMul, Nat.reduceMul, ms_n, ms_i, ms_l, ms_p, PX]
      rw [if_neg (by omega)]
      refine At.blk rfl rfl rfl fun sx => ?_
      simp (decide := true) only [RR, ms_app, toList_some, toList_none, if_true, if_false, true_and, and_true, cond_true, sm0, sm1, sm1l, sm2, lc_lt, lc_gt, lc_eq, Int.toNat_natCast, Int.reduceToNat, Nat.reduceAdd, Nat.reduceEqDiff, Int.reduceLT, Int.reduceEq, Int.reduceNeg, Int.reduceAdd, Int.reduceMul, Nat.reduceMul, ms_n, ms_i, ms_l, ms_p, PX, fxX hF']
      exact hK σ' fr s
    | succ m ih =>
      intro k hk hk2 σ' fr s
      have hF' := hF.fr fr rfl
      have wn := ntM_night (C := C) (w := w) k
      have w1 : Unit → w32 ((k : Int) + 1) = ((k + 1 : Nat) : Int) := fun _ => by rw [w32_small (by omega) (by omega)]; omega
      have hwk := ntM_V hw k (by omega)
      refine At.blk rfl rfl rfl fun sx => ?_
      simp (decide := true) only [RR, ms_app, toList_some, toList_none, if_true, if_false, true_and, and_true, cond_true, sm0, sm1, sm1l, sm2, lc_lt, lc_gt, lc_eq, Int.toNat_natCast, Int.reduceToNat, Nat.reduceAdd, Nat.reduceEqDiff, Int.reduceLT, Int.reduceEq, Int.reduceNeg, Int.reduceAdd, Int.reduceMul, Nat.reduceMul, ms_n, ms_i, ms_l, ms_p, PX, fxX hF']
      rw [if_pos (by omega)]
      refine cal_of rfl (x_foresee34 hF' hC hwk (hcx.xr fr) s (fun σ1 f1 hE h1 => ?_))
      have hF1 := hF'.fr f1 rfl
      simp (decide := true) only [RR, ms_app, toList_some, toList_none, if_true, if_false, true_and, and_true, cond_true, sm0, sm1, sm1l, sm2, lc_lt, lc_gt, lc_eq, Int.toNat_natCast, Int.reduceToNat, Nat.reduceAdd, Nat.reduceEqDiff, Int.reduceLT, Int.reduceEq, Int.reduceNeg, Int.reduceAdd, Int.reduceMul, Nat.reduceMul, ms_n, ms_i, ms_l, ms_p, PX, fxX hF1]
      refine cal_of rfl (x_pass34 hF1 hC hwk ((hcx.xr fr).xw f1) (s.xw34 f1) (fun p hp => (h1 p hp).2.2) (fun σ2 f2 s2 => ?_))
      simp (decide := true) only [RR, ms_app, toList_some, toList_none, if_true, if_false, true_and, and_true, cond_true, sm0, sm1, sm1l, sm2, lc_lt, lc_gt, lc_eq, Int.toNat_natCast, Int.reduceToNat, Nat.reduceAdd, Nat.reduceEqDiff, Int.reduceLT, Int.reduceEq, Int.reduceNeg, Int.reduceAdd, Int.reduceMul, Nat.reduceMul, ms_n, ms_i, ms_l, ms_p, PX, w1 ()]
      rw [nxC_eq (by omega)] at s2
      exact ih (k + 1) (by omega) (by omega) σ2 ((fr.trans (f1.mono rfl)).trans (f2.mono rfl)) s2
  exact loop n 0 rfl (by omega) _ (Fr.copy.mono rfl) (hsx.copy n7)
theorem x_later {a n b : Int} (hF : Fix σ) (hW : Wrl σ C w l) (hK : ∀ σ', Fr xrL xrT σ σ' → K (some (.inl (latV C w a n b))) σ') : Mt (d + 6) 115 [.inr (.inr 0), .inl a, .inl n, .inl b] σ K := by
  refine Mt.go (lv := [some (.inr (.inr 0)), some (.inl a), some (.inl n), some (.inl b), none]) rfl rfl rfl ?_
  obtain ⟨hC, hcx, hcm, hw, hsx, hsm, hkx, hkm, hkv, h9⟩ := hW
  have n7 := hC.1
  have en : σ 28 2 = w.1 := hsx.1
  unfold latV at hK
  have no : ¬((0 ≤ a ∧ a < C.1) ∧ (0 ≤ n ∧ n ≤ 60 ∧ w.1 + n ≤ 999)) → At (d + 5) 115 1 [some (.inr (.inr 0)), some (.inl a), some (.inl n), some (.inl b), none] [] σ K := by
    intro h
    rw [if_neg (by omega)] at hK
    refine At.blk rfl rfl rfl fun sx => ?_
    simp (decide := true) only [RR, ms_app, toList_some, toList_none, if_true, if_false, true_and, and_true, cond_true, sm0, sm1, sm1l, sm2, lc_lt, lc_gt, lc_eq, Int.toNat_natCast, Int.reduceToNat, Nat.reduceAdd, Nat.reduceEqDiff, Int.reduceLT, Int.reduceEq, Int.reduceNeg, Int.reduceAdd, Int.reduceMul, Nat.reduceMul, ms_n, ms_i, ms_l, ms_p, PX]
    exact hK σ Fr.same
  refine At.blk rfl rfl rfl fun sx => ?_
  simp (decide := true) only [RR, ms_app, toList_some, toList_none, if_true, if_false, true_and, and_true, cond_true, sm0, sm1, sm1l, sm2, lc_lt, lc_gt, lc_eq, Int.toNat_natCast, Int.reduceToNat, Nat.reduceAdd, Nat.reduceEqDiff, Int.reduceLT, Int.reduceEq, Int.reduceNeg, Int.reduceAdd, Int.reduceMul, Nat.reduceMul, ms_n, ms_i, ms_l, ms_p, PX, fxX hF]
  refine cal_of rfl (x_holds3 (fun hh => ?_) (fun hh => ?_))
  · rw [hcx.1] at hh
    simp (decide := true) only [RR, ms_app, toList_some, toList_none, if_true, if_false, true_and, and_true, cond_true, sm0, sm1, sm1l, sm2, lc_lt, lc_gt, lc_eq, Int.toNat_natCast, Int.reduceToNat, Nat.reduceAdd, Nat.reduceEqDiff, Int.reduceLT, Int.reduceEq, Int.reduceNeg, Int.reduceAdd, Int.reduceMul, Nat.reduceMul, ms_n, ms_i, ms_l, ms_p, PX, fxX hF, en]
    by_cases a1 : n < 0
    · rw [if_pos a1]; exact no (by omega)
    · rw [if_neg a1]
      by_cases a2 : 60 < n
      · rw [if_pos a2]; exact no (by omega)
      · rw [if_neg a2, w32_small (by omega) (by omega)]
        by_cases a3 : 999 < w.1 + n
        · rw [if_pos a3]; exact no (by omega)
        · rw [if_neg a3]
          obtain ⟨p, rfl⟩ := Int.eq_ofNat_of_zero_le hh.1
          obtain ⟨n, rfl⟩ := Int.eq_ofNat_of_zero_le (show 0 ≤ n by omega)
          have hp : p < C.1 := by omega
          rw [Int.toNat_natCast, Int.toNat_natCast] at hK
          refine At.blk rfl rfl rfl fun sx => ?_
          simp (decide := true) only [RR, ms_app, toList_some, toList_none, if_true, if_false, true_and, and_true, cond_true, sm0, sm1, sm1l, sm2, lc_lt, lc_gt, lc_eq, Int.toNat_natCast, Int.reduceToNat, Nat.reduceAdd, Nat.reduceEqDiff, Int.reduceLT, Int.reduceEq, Int.reduceNeg, Int.reduceAdd, Int.reduceMul, Nat.reduceMul, ms_n, ms_i, ms_l, ms_p, PX, fxX hF]
          refine cal_of rfl (x_skyBehind hF hC hcx hw hsx (by omega) (by omega) (fun σ1 f1 s1 => ?_))
          have hF1 := hF.fr f1 rfl
          have ep : σ1 35 p = (ntM C w n).2.1 p := (s1.2.2.2 p hp).1
          simp (decide := true) only [RR, ms_app, toList_some, toList_none, if_true, if_false, true_and, and_true, cond_true, sm0, sm1, sm1l, sm2, lc_lt, lc_gt, lc_eq, Int.toNat_natCast, Int.reduceToNat, Nat.reduceAdd, Nat.reduceEqDiff, Int.reduceLT, Int.reduceEq, Int.reduceNeg, Int.reduceAdd, Int.reduceMul, Nat.reduceMul, ms_n, ms_i, ms_l, ms_p, PX, fxX hF1, ep]
          by_cases b0 : b = 0
          · rw [if_pos b0]
            rw [if_pos (by omega), if_pos b0] at hK
            exact ⟨⟨by omega, by omega⟩, hK σ1 f1⟩
          · rw [if_neg b0]
            refine At.blk rfl rfl rfl fun sx => ?_
            simp (decide := true) only [RR, ms_app, toList_some, toList_none, if_true, if_false, true_and, and_true, cond_true, sm0, sm1, sm1l, sm2, lc_lt, lc_gt, lc_eq, Int.toNat_natCast, Int.reduceToNat, Nat.reduceAdd, Nat.reduceEqDiff, Int.reduceLT, Int.reduceEq, Int.reduceNeg, Int.reduceAdd, Int.reduceMul, Nat.reduceMul, ms_n, ms_i, ms_l, ms_p, PX, fxX hF1]
            by_cases b1 : b = 1
            · rw [if_pos b1]
              rw [if_pos (by omega), if_neg b0] at hK
              refine cal_of rfl (x_gales34 hF1 hC (hcx.xr f1) s1 ?_)
              simp (decide := true) only [RR, ms_app, toList_some, toList_none, if_true, if_false, true_and, and_true, cond_true, sm0, sm1, sm1l, sm2, lc_lt, lc_gt, lc_eq, Int.toNat_natCast, Int.reduceToNat, Nat.reduceAdd, Nat.reduceEqDiff, Int.reduceLT, Int.reduceEq, Int.reduceNeg, Int.reduceAdd, Int.reduceMul, Nat.reduceMul, ms_n, ms_i, ms_l, ms_p, PX]
              refine At.blk rfl rfl rfl fun sx => ?_
              simp (decide := true) only [RR, ms_app, toList_some, toList_none, if_true, if_false, true_and, and_true, cond_true, sm0, sm1, sm1l, sm2, lc_lt, lc_gt, lc_eq, Int.toNat_natCast, Int.reduceToNat, Nat.reduceAdd, Nat.reduceEqDiff, Int.reduceLT, Int.reduceEq, Int.reduceNeg, Int.reduceAdd, Int.reduceMul, Nat.reduceMul, ms_n, ms_i, ms_l, ms_p, PX]
              exact hK σ1 f1
            · rw [if_neg b1]
              rw [if_neg (by omega)] at hK
              refine At.blk rfl rfl rfl fun sx => ?_
              simp (decide := true) only [RR, ms_app, toList_some, toList_none, if_true, if_false, true_and, and_true, cond_true, sm0, sm1, sm1l, sm2, lc_lt, lc_gt, lc_eq, Int.toNat_natCast, Int.reduceToNat, Nat.reduceAdd, Nat.reduceEqDiff, Int.reduceLT, Int.reduceEq, Int.reduceNeg, Int.reduceAdd, Int.reduceMul, Nat.reduceMul, ms_n, ms_i, ms_l, ms_p, PX]
              refine At.blk rfl rfl rfl fun sx => ?_
              simp (decide := true) only [RR, ms_app, toList_some, toList_none, if_true, if_false, true_and, and_true, cond_true, sm0, sm1, sm1l, sm2, lc_lt, lc_gt, lc_eq, Int.toNat_natCast, Int.reduceToNat, Nat.reduceAdd, Nat.reduceEqDiff, Int.reduceLT, Int.reduceEq, Int.reduceNeg, Int.reduceAdd, Int.reduceMul, Nat.reduceMul, ms_n, ms_i, ms_l, ms_p, PX]
              exact hK σ1 f1
  · rw [hcx.1] at hh
    simp (decide := true) only [RR, ms_app, toList_some, toList_none, if_true, if_false, true_and, and_true, cond_true, sm0, sm1, sm1l, sm2, lc_lt, lc_gt, lc_eq, Int.toNat_natCast, Int.reduceToNat, Nat.reduceAdd, Nat.reduceEqDiff, Int.reduceLT, Int.reduceEq, Int.reduceNeg, Int.reduceAdd, Int.reduceMul, Nat.reduceMul, ms_n, ms_i, ms_l, ms_p, PX]
    exact no (by omega)
theorem m_later {a n b : Int} (hF : Fix σ) (hW : Wrl σ C w l) (h53 : σ 146 53 = 0) (hK : ∀ σ', Fr mrL mrT σ σ' → K (some (.inl (latV C w a n b))) σ') : Mt (d + 12) 208 [.inr (.inr 146), .inl a, .inl n, .inl b] σ K := by
  refine Mt.go (lv := [some (.inr (.inr 146)), some (.inl a), some (.inl n), some (.inl b), none]) rfl rfl rfl ?_
  obtain ⟨hC, hcx, hcm, hw, hsx, hsm, hkx, hkm, hkv, h9⟩ := hW
  have n7 := hC.1
  have em : σ 182 0 = w.1 := hsm.1
  unfold latV at hK
  have no : ¬((0 ≤ a ∧ a < C.1) ∧ (0 ≤ n ∧ n ≤ 60 ∧ w.1 + n ≤ 999) ∧ (0 ≤ b ∧ b ≤ 1)) → At (d + 11) 208 1 [some (.inr (.inr 146)), some (.inl a), some (.inl n), some (.inl b), none] [] σ K := by
    intro h
    rw [if_neg h] at hK
    refine At.blk rfl rfl rfl fun sx => ?_
    simp (decide := true) only [RR, ms_app, toList_some, toList_none, if_true, if_false, true_and, and_true, cond_true, sm0, sm1, sm1l, sm2, lc_lt, lc_gt, lc_eq, Int.toNat_natCast, Int.reduceToNat, Nat.reduceAdd, Nat.reduceEqDiff, Int.reduceLT, Int.reduceEq, Int.reduceNeg, Int.reduceAdd, Int.reduceMul, Nat.reduceMul, ms_n, ms_i, ms_l, ms_p, PM]
    exact hK σ Fr.same
  refine At.blk rfl rfl rfl fun sx => ?_
  simp (decide := true) only [RR, ms_app, toList_some, toList_none, if_true, if_false, true_and, and_true, cond_true, sm0, sm1, sm1l, sm2, lc_lt, lc_gt, lc_eq, Int.toNat_natCast, Int.reduceToNat, Nat.reduceAdd, Nat.reduceEqDiff, Int.reduceLT, Int.reduceEq, Int.reduceNeg, Int.reduceAdd, Int.reduceMul, Nat.reduceMul, ms_n, ms_i, ms_l, ms_p, PM, fxM hF]
  refine cal_of rfl (m_isPart hF (by rw [hcm.1]; omega) (fun hh => ?_) (fun hh => ?_))
  · rw [hcm.1] at hh
    simp (decide := true) only [RR, ms_app, toList_some, toList_none, if_true, if_false, true_and, and_true, cond_true, sm0, sm1, sm1l, sm2, lc_lt, lc_gt, lc_eq, Int.toNat_natCast, Int.reduceToNat, Nat.reduceAdd, Nat.reduceEqDiff, Int.reduceLT, Int.reduceEq, Int.reduceNeg, Int.reduceAdd, Int.reduceMul, Nat.reduceMul, ms_n, ms_i, ms_l, ms_p, PM]
    refine cal_of rfl (m_isAhead hF (by omega) (by decide) (by decide) (fun h1 => ?_) (fun h1 => ?_))
    · rw [em] at h1
      simp (decide := true) only [RR, ms_app, toList_some, toList_none, if_true, if_false, true_and, and_true, cond_true, sm0, sm1, sm1l, sm2, lc_lt, lc_gt, lc_eq, Int.toNat_natCast, Int.reduceToNat, Nat.reduceAdd, Nat.reduceEqDiff, Int.reduceLT, Int.reduceEq, Int.reduceNeg, Int.reduceAdd, Int.reduceMul, Nat.reduceMul, ms_n, ms_i, ms_l, ms_p, PM]
      refine cal_of rfl (m_isIn ?_)
      simp (decide := true) only [RR, ms_app, toList_some, toList_none, if_true, if_false, true_and, and_true, cond_true, sm0, sm1, sm1l, sm2, lc_lt, lc_gt, lc_eq, Int.toNat_natCast, Int.reduceToNat, Nat.reduceAdd, Nat.reduceEqDiff, Int.reduceLT, Int.reduceEq, Int.reduceNeg, Int.reduceAdd, Int.reduceMul, Nat.reduceMul, ms_n, ms_i, ms_l, ms_p, PM]
      by_cases b0 : 0 ≤ b ∧ b ≤ 1
      · rw [if_pos b0, if_neg (by decide)]
        obtain ⟨p, rfl⟩ := Int.eq_ofNat_of_zero_le hh.1
        obtain ⟨n, rfl⟩ := Int.eq_ofNat_of_zero_le (show 0 ≤ n by omega)
        have hp : p < C.1 := by omega
        rw [Int.toNat_natCast, Int.toNat_natCast, if_pos (by omega)] at hK
        refine At.blk rfl rfl rfl fun sx => ?_
        simp (decide := true) only [RR, ms_app, toList_some, toList_none, if_true, if_false, true_and, and_true, cond_true, sm0, sm1, sm1l, sm2, lc_lt, lc_gt, lc_eq, Int.toNat_natCast, Int.reduceToNat, Nat.reduceAdd, Nat.reduceEqDiff, Int.reduceLT, Int.reduceEq, Int.reduceNeg, Int.reduceAdd, Int.reduceMul, Nat.reduceMul, ms_n, ms_i, ms_l, ms_p, PM]
        refine cal_of rfl (m_putsAside hF (fun σ1 t1 e1 _ _ => ?_))
        have hF1 := hF.fr t1.1 rfl
        simp (decide := true) only [RR, ms_app, toList_some, toList_none, if_true, if_false, true_and, and_true, cond_true, sm0, sm1, sm1l, sm2, lc_lt, lc_gt, lc_eq, Int.toNat_natCast, Int.reduceToNat, Nat.reduceAdd, Nat.reduceEqDiff, Int.reduceLT, Int.reduceEq, Int.reduceNeg, Int.reduceAdd, Int.reduceMul, Nat.reduceMul, ms_n, ms_i, ms_l, ms_p, PM]
        refine cal_of rfl (m_nights1 hF1 hC hw (by omega) (by omega) t1 hcm (hsm.eq e1 n7) (fun σ2 t2 s2 _ _ _ _ => ?_))
        have hF2 := hF.fr t2.1 rfl
        simp (decide := true) only [RR, ms_app, toList_some, toList_none, if_true, if_false, true_and, and_true, cond_true, sm0, sm1, sm1l, sm2, lc_lt, lc_gt, lc_eq, Int.toNat_natCast, Int.reduceToNat, Nat.reduceAdd, Nat.reduceEqDiff, Int.reduceLT, Int.reduceEq, Int.reduceNeg, Int.reduceAdd, Int.reduceMul, Nat.reduceMul, ms_n, ms_i, ms_l, ms_p, PM]
        have four : ∀ v : Int, v = (if b = 0 then (ntM C w n).2.1 p else galesP C (ntM C w n)) → At (d + 11) 208 4 [some (.inr (.inr 146)), some (.inl (p : Int)), some (.inl (n : Int)), some (.inl b), none] [.inl v] σ2 K := by
          intro v hv
          refine At.blk rfl rfl rfl fun sx => ?_
          simp (decide := true) only [RR, ms_app, toList_some, toList_none, if_true, if_false, true_and, and_true, cond_true, sm0, sm1, sm1l, sm2, lc_lt, lc_gt, lc_eq, Int.toNat_natCast, Int.reduceToNat, Nat.reduceAdd, Nat.reduceEqDiff, Int.reduceLT, Int.reduceEq, Int.reduceNeg, Int.reduceAdd, Int.reduceMul, Nat.reduceMul, ms_n, ms_i, ms_l, ms_p, PM]
          refine cal_of rfl (m_takesBack hF2 t2 h53 (fun σ3 f3 _ => ?_))
          simp (decide := true) only [RR, ms_app, toList_some, toList_none, if_true, if_false, true_and, and_true, cond_true, sm0, sm1, sm1l, sm2, lc_lt, lc_gt, lc_eq, Int.toNat_natCast, Int.reduceToNat, Nat.reduceAdd, Nat.reduceEqDiff, Int.reduceLT, Int.reduceEq, Int.reduceNeg, Int.reduceAdd, Int.reduceMul, Nat.reduceMul, ms_n, ms_i, ms_l, ms_p, PM]
          rw [hv]
          exact hK σ3 f3
        by_cases b1 : b = 0
        · rw [if_pos b1]
          refine cal_of rfl (m_airOf hF2 (by omega) ?_)
          simp (decide := true) only [RR, ms_app, toList_some, toList_none, if_true, if_false, true_and, and_true, cond_true, sm0, sm1, sm1l, sm2, lc_lt, lc_gt, lc_eq, Int.toNat_natCast, Int.reduceToNat, Nat.reduceAdd, Nat.reduceEqDiff, Int.reduceLT, Int.reduceEq, Int.reduceNeg, Int.reduceAdd, Int.reduceMul, Nat.reduceMul, ms_n, ms_i, ms_l, ms_p, PM]
          exact four _ (by rw [if_pos b1]; exact (s2.2 p hp).1)
        · rw [if_neg b1]
          refine At.blk rfl rfl rfl fun sx => ?_
          simp (decide := true) only [RR, ms_app, toList_some, toList_none, if_true, if_false, true_and, and_true, cond_true, sm0, sm1, sm1l, sm2, lc_lt, lc_gt, lc_eq, Int.toNat_natCast, Int.reduceToNat, Nat.reduceAdd, Nat.reduceEqDiff, Int.reduceLT, Int.reduceEq, Int.reduceNeg, Int.reduceAdd, Int.reduceMul, Nat.reduceMul, ms_n, ms_i, ms_l, ms_p, PM]
          refine cal_of rfl (m_gales hF2 hC (hcm.th t2.1) s2 ?_)
          simp (decide := true) only [RR, ms_app, toList_some, toList_none, if_true, if_false, true_and, and_true, cond_true, sm0, sm1, sm1l, sm2, lc_lt, lc_gt, lc_eq, Int.toNat_natCast, Int.reduceToNat, Nat.reduceAdd, Nat.reduceEqDiff, Int.reduceLT, Int.reduceEq, Int.reduceNeg, Int.reduceAdd, Int.reduceMul, Nat.reduceMul, ms_n, ms_i, ms_l, ms_p, PM]
          exact four _ (by rw [if_neg b1])
      · rw [if_neg b0, if_pos rfl]
        exact no (by omega)
    · rw [em] at h1
      simp (decide := true) only [RR, ms_app, toList_some, toList_none, if_true, if_false, true_and, and_true, cond_true, sm0, sm1, sm1l, sm2, lc_lt, lc_gt, lc_eq, Int.toNat_natCast, Int.reduceToNat, Nat.reduceAdd, Nat.reduceEqDiff, Int.reduceLT, Int.reduceEq, Int.reduceNeg, Int.reduceAdd, Int.reduceMul, Nat.reduceMul, ms_n, ms_i, ms_l, ms_p, PM]
      exact no (by omega)
  · rw [hcm.1] at hh
    simp (decide := true) only [RR, ms_app, toList_some, toList_none, if_true, if_false, true_and, and_true, cond_true, sm0, sm1, sm1l, sm2, lc_lt, lc_gt, lc_eq, Int.toNat_natCast, Int.reduceToNat, Nat.reduceAdd, Nat.reduceEqDiff, Int.reduceLT, Int.reduceEq, Int.reduceNeg, Int.reduceAdd, Int.reduceMul, Nat.reduceMul, ms_n, ms_i, ms_l, ms_p, PM]
    exact no (by omega)
end
theorem Inv.th0 {σ : mM} (h : Inv σ) : σ 146 53 = 0 := h.2.2.2.2.2.2.2.2.2.2.2
theorem p_later {σ : mM} (h : Inv σ) (a n b : Int) (_ : inR a) (_ : inR n) (_ : inR b) : PairI Inv 115 208 [.inl a, .inl n, .inl b] σ := by
  obtain ⟨C, w, l, hW⟩ := h.wrl
  exact ro_pair (v := latV C w a n b) h hW (x_later h.1 hW (fun σ' f => ⟨rfl, f.mono rfl⟩)) (fun σ1 h1 hW1 _ => m_later h1.1 hW1 h1.th0 (fun σ' f => ⟨rfl, f.mono rfl⟩))
