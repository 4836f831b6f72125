/-! right -/
def sdP (bz : Bool) (C : Ct) (w : Sk) (p : Nat) : Int := if bz = true then readP C w p else rivP C w p
def rgI (bz : Bool) (C : Ct) (w : Sk) (p : Nat) : Int := if sdP bz C w p = thnP C w p then 1 else 0
def rgN (bz : Bool) (C : Ct) (w : Sk) (n : Nat) : Int := sumN (fun k => sumN (rgI bz C (ntM C w k)) C.1) n
theorem rg_le {bz : Bool} {C : Ct} {w : Sk} {p : Nat} : 0 ≤ rgI bz C w p ∧ rgI bz C w p ≤ 1 := by unfold rgI; split <;> omega
theorem rgN_le {bz : Bool} {C : Ct} {w : Sk} (h : CtV C) (n : Nat) : 0 ≤ rgN bz C w n ∧ rgN bz C w n ≤ 7 * n := sumN_le n (fun j _ => by
  have := sumN_le (f := rgI bz C (ntM C w j)) (c := 1) C.1 (fun j _ => rg_le)
  have := h.1
  omega)
theorem rgN_t {C : Ct} {w : Sk} {n : Nat} : rgN true C w n = rbN C w n := rfl
theorem rgN_f {C : Ct} {w : Sk} {n : Nat} : rgN false C w n = rvN C w n := rfl
def rigV (C : Ct) (w : Sk) (a n : Int) : Int := if (0 ≤ a ∧ a ≤ 1) ∧ (1 ≤ n ∧ n ≤ 60 ∧ w.1 + n ≤ 999) then rgN (decide (a = 0)) C w n.toNat else -1
section
variable {d : Nat} {σ σ0 : mM} {K : Option mV → mM → Prop} {C : Ct} {w : Sk} {l : Kp}
theorem x_timesRight {bz : Bool} {n : Nat} (hF : Fix σ) (hC : CtV C) (hcx : CtX σ C) (hw : SkV C w) (hsx : SkX σ 28 C w) (hn : n ≤ 60) (h9 : w.1 + n ≤ 999) (hK : ∀ σ', Fr xrL xrT σ σ' → K (some (.inl (rgN bz C w n))) σ') : Mt (d + 6) 24 [.inr (.inr 33), .inl (if bz = true then 1 else 0), .inl (n : Int)] σ K := by
  generalize hbi : (if bz = true then (1 : Int) else 0) = bi
  refine Mt.go (lv := [some (.inr (.inr 33)), some (.inl bi), some (.inl (n : Int)), none, none, none, none]) rfl rfl rfl ?_
  have n7 := hC.1
  refine At.blk rfl rfl rfl fun sx => ?_
  simp (decide := true) only [RR, ms_app, toList_some, toList_none, if_true, if_false, true_and, and_true, cond_true, sm0, sm1, sm1l, sm2, lc_lt, lc_gt, lc_eq, Int.toNat_natCast, Int.reduceToNat, Nat.reduceAdd, Nat.reduceEqDiff, Int.reduceLT, Int.reduceEq, Int.reduceNeg, Int.reduceAdd, Int.reduceMul, Nat.reduceMul, ms_n, ms_i, ms_l, ms_p, PX, fxX hF]
  refine cal_of rfl (x_skyCopy hF rfl rfl (by omega) ?_)
  simp (decide := true) only [RR, ms_app, toList_some, toList_none, if_true, if_false, true_and, and_true, cond_true, sm0, sm1, sm1l, sm2, lc_lt, lc_gt, lc_eq, Int.toNat_natCast, Int.reduceToNat, Nat.reduceAdd, Nat.reduceEqDiff, Int.reduceLT, Int.reduceEq, Int.reduceNeg, Int.reduceAdd, Int.reduceMul, Nat.reduceMul, ms_n, ms_i, ms_l, ms_p, PX]
  have loop : ∀ m k : Nat, n - k = m → k ≤ n → ∀ (σ' : mM) (o5 o6 : Option mV), Fr xrL xrT σ σ' → SkX σ' 34 C (ntM C w k) → At (d + 5) 24 1 [some (.inr (.inr 33)), some (.inl bi), some (.inl (n : Int)), some (.inl (rgN bz C w k)), some (.inl (k : Int)), o5, o6] [] σ' K := by
    intro m
    induction m with
    | zero =>
      intro k hk hk2 σ' o5 o6 fr s
      obtain rfl : k = n := by omega
      refine At.blk rfl rfl rfl fun sx => ?_
      simp (decide := true) only [RR, ms_app, toList_some, toList_none, if_true, if_false, true_and, and_true, cond_true, sm0, sm1, sm1l, sm2, lc_lt, lc_gt, lc_eq, Int.toNat_natCast, Int.reduceToNat, Nat.reduceAdd, Nat.reduceEqDiff, Int.reduceLT, Int.reduceEq, Int.reduceNeg, Int.reduceAdd, Int.reduceMul, Nat.reduceMul, ms_n, ms_i, ms_l, ms_p, PX]
      rw [if_neg (by omega)]
      refine At.blk rfl rfl rfl fun sx => ?_
      simp (decide := true) only [RR, ms_app, toList_some, toList_none, if_true, if_false, true_and, and_true, cond_true, sm0, sm1, sm1l, sm2, lc_lt, lc_gt, lc_eq, Int.toNat_natCast, Int.reduceToNat, Nat.reduceAdd, Nat.reduceEqDiff, Int.reduceLT, Int.reduceEq, Int.reduceNeg, Int.reduceAdd, Int.reduceMul, Nat.reduceMul, ms_n, ms_i, ms_l, ms_p, PX]
      exact hK σ' fr
    | succ m ih =>
      intro k hk hk2 σ' o5 o6 fr s
      have hF' := hF.fr fr rfl
      have c8 := hcx.xr fr
      have wn := ntM_night (C := C) (w := w) k
      have hwk := ntM_V hw k (by omega)
      have bN := rgN_le (bz := bz) (w := w) hC k
      have w1 : Unit → w32 ((k : Int) + 1) = ((k + 1 : Nat) : Int) := fun _ => by rw [w32_small (by omega) (by omega)]; omega
      refine At.blk rfl rfl rfl fun sx => ?_
      simp (decide := true) only [RR, ms_app, toList_some, toList_none, if_true, if_false, true_and, and_true, cond_true, sm0, sm1, sm1l, sm2, lc_lt, lc_gt, lc_eq, Int.toNat_natCast, Int.reduceToNat, Nat.reduceAdd, Nat.reduceEqDiff, Int.reduceLT, Int.reduceEq, Int.reduceNeg, Int.reduceAdd, Int.reduceMul, Nat.reduceMul, ms_n, ms_i, ms_l, ms_p, PX, fxX hF']
      rw [if_pos (by omega)]
      refine cal_of rfl (x_foresee34 hF' hC hwk c8 s (fun σ1 f1 hE h1 => ?_))
      have hF1 := hF'.fr f1 rfl
      have c1 := c8.xw f1
      have s1 := s.xw34 f1
      simp (decide := true) only [RR, ms_app, toList_some, toList_none, if_true, if_false, true_and, and_true, cond_true, sm0, sm1, sm1l, sm2, lc_lt, lc_gt, lc_eq, Int.toNat_natCast, Int.reduceToNat, Nat.reduceAdd, Nat.reduceEqDiff, Int.reduceLT, Int.reduceEq, Int.reduceNeg, Int.reduceAdd, Int.reduceMul, Nat.reduceMul, ms_n, ms_i, ms_l, ms_p, PX]
      have loop2 : ∀ m j : Nat, C.1 - j = m → j ≤ C.1 → ∀ (σ2 : mM) (o6 : Option mV), Fr [22] [] σ1 σ2 → At (d + 5) 24 2 [some (.inr (.inr 33)), some (.inl bi), some (.inl (n : Int)), some (.inl (rgN bz C w k + sumN (rgI bz C (ntM C w k)) j)), some (.inl (k : Int)), some (.inl (j : Int)), o6] [] σ2 K := by
        intro m
        induction m with
        | zero =>
          intro j hj hj2 σ2 o6 f2
          obtain rfl : j = C.1 := by omega
          have hF2 := hF1.fr f2 rfl
          have c2 : CtX σ2 C := c1.cg (f2.row 3 rfl) (f2.row 6 rfl) (f2.row 8 rfl) (f2.row 9 rfl) (f2.row 10 rfl)
          have s2 : SkX σ2 34 C (ntM C w k) := s1.cg (f2.row 34 rfl) (f2.row 35 rfl) (f2.row 36 rfl)
          refine At.blk rfl rfl rfl fun sx => ?_
          simp (decide := true) only [RR, ms_app, toList_some, toList_none, if_true, if_false, true_and, and_true, cond_true, sm0, sm1, sm1l, sm2, lc_lt, lc_gt, lc_eq, Int.toNat_natCast, Int.reduceToNat, Nat.reduceAdd, Nat.reduceEqDiff, Int.reduceLT, Int.reduceEq, Int.reduceNeg, Int.reduceAdd, Int.reduceMul, Nat.reduceMul, ms_n, ms_i, ms_l, ms_p, PX, fxX hF2, c2.1]
          rw [if_neg (by omega)]
          refine At.blk rfl rfl rfl fun sx => ?_
          simp (decide := true) only [RR, ms_app, toList_some, toList_none, if_true, if_false, true_and, and_true, cond_true, sm0, sm1, sm1l, sm2, lc_lt, lc_gt, lc_eq, Int.toNat_natCast, Int.reduceToNat, Nat.reduceAdd, Nat.reduceEqDiff, Int.reduceLT, Int.reduceEq, Int.reduceNeg, Int.reduceAdd, Int.reduceMul, Nat.reduceMul, ms_n, ms_i, ms_l, ms_p, PX, fxX hF2]
          refine cal_of rfl (x_pass34 hF2 hC hwk c2 s2 (fun p hp => (f2 27 p rfl).trans (h1 p hp).2.2) (fun σ3 f3 s3 => ?_))
          simp (decide := true) only [RR, ms_app, toList_some, toList_none, if_true, if_false, true_and, and_true, cond_true, sm0, sm1, sm1l, sm2, lc_lt, lc_gt, lc_eq, Int.toNat_natCast, Int.reduceToNat, Nat.reduceAdd, Nat.reduceEqDiff, Int.reduceLT, Int.reduceEq, Int.reduceNeg, Int.reduceAdd, Int.reduceMul, Nat.reduceMul, ms_n, ms_i, ms_l, ms_p, PX, w1 ()]
          rw [nxC_eq (by omega)] at s3
          exact ih (k + 1) (by omega) (by omega) σ3 _ _ (((fr.trans (f1.mono rfl)).trans (f2.mono rfl)).trans (f3.mono rfl)) s3
        | succ m ih2 =>
          intro j hj hj2 σ2 o6 f2
          have hj3 : j < C.1 := by omega
          have hF2 := hF1.fr f2 rfl
          have c2 : CtX σ2 C := c1.cg (f2.row 3 rfl) (f2.row 6 rfl) (f2.row 8 rfl) (f2.row 9 rfl) (f2.row 10 rfl)
          have s2 : SkX σ2 34 C (ntM C w k) := s1.cg (f2.row 34 rfl) (f2.row 35 rfl) (f2.row 36 rfl)
          have b1 := sumN_le (f := rgI bz C (ntM C w k)) (c := 1) j (fun j _ => rg_le)
          have w2 : Unit → w32 ((j : Int) + 1) = ((j + 1 : Nat) : Int) := fun _ => by rw [w32_small (by omega) (by omega)]; omega
          have eR : σ2 25 j = readP C (ntM C w k) j := (f2 25 j rfl).trans (h1 j hj3).1
          have five : ∀ (u : Int) (o6 : Option mV) (σ3 : mM), Fr [22] [] σ1 σ3 → u = rgN bz C w k + sumN (rgI bz C (ntM C w k)) (j + 1) → At (d + 5) 24 5 [some (.inr (.inr 33)), some (.inl bi), some (.inl (n : Int)), some (.inl u), some (.inl (k : Int)), some (.inl (j : Int)), o6] [] σ3 K := by
            intro u o6 σ3 f3 hu
            refine At.blk rfl rfl rfl fun sx => ?_
            simp (decide := true) only [RR, ms_app, toList_some, toList_none, if_true, if_false, true_and, and_true, cond_true, sm0, sm1, sm1l, sm2, lc_lt, lc_gt, lc_eq, Int.toNat_natCast, Int.reduceToNat, Nat.reduceAdd, Nat.reduceEqDiff, Int.reduceLT, Int.reduceEq, Int.reduceNeg, Int.reduceAdd, Int.reduceMul, Nat.reduceMul, ms_n, ms_i, ms_l, ms_p, PX, w2 ()]
            rw [hu]
            exact ih2 (j + 1) (by omega) (by omega) σ3 o6 f3
          have four : ∀ (v : Int) (σ3 : mM), Fr [22] [] σ1 σ3 → v = sdP bz C (ntM C w k) j → At (d + 5) 24 4 [some (.inr (.inr 33)), some (.inl bi), some (.inl (n : Int)), some (.inl (rgN bz C w k + sumN (rgI bz C (ntM C w k)) j)), some (.inl (k : Int)), some (.inl (j : Int)), o6] [.inl v] σ3 K := by
            intro v σ3 f3 hv
            have hF3 := hF1.fr f3 rfl
            have eT : σ3 27 j = thnP C (ntM C w k) j := (f3 27 j rfl).trans (h1 j hj3).2.2
            refine At.blk rfl rfl rfl fun sx => ?_
            simp (decide := true) only [RR, ms_app, toList_some, toList_none, if_true, if_false, true_and, and_true, cond_true, sm0, sm1, sm1l, sm2, lc_lt, lc_gt, lc_eq, Int.toNat_natCast, Int.reduceToNat, Nat.reduceAdd, Nat.reduceEqDiff, Int.reduceLT, Int.reduceEq, Int.reduceNeg, Int.reduceAdd, Int.reduceMul, Nat.reduceMul, ms_n, ms_i, ms_l, ms_p, PX, fxX hF3, eT]
            refine ⟨⟨by omega, by omega⟩, ?_⟩
            by_cases e : v = thnP C (ntM C w k) j
            · rw [if_pos e, w32_small (by omega) (by omega)]
              refine five _ _ σ3 f3 ?_
              simp only [sumN]
              rw [show rgI bz C (ntM C w k) j = 1 by unfold rgI; rw [if_pos (hv ▸ e)]]
              omega
            · rw [if_neg e]
              refine five _ _ σ3 f3 ?_
              simp only [sumN]
              rw [show rgI bz C (ntM C w k) j = 0 by unfold rgI; rw [if_neg (hv ▸ e)]]
              omega
          refine At.blk rfl rfl rfl fun sx => ?_
          simp (decide := true) only [RR, ms_app, toList_some, toList_none, if_true, if_false, true_and, and_true, cond_true, sm0, sm1, sm1l, sm2, lc_lt, lc_gt, lc_eq, Int.toNat_natCast, Int.reduceToNat, Nat.reduceAdd, Nat.reduceEqDiff, Int.reduceLT, Int.reduceEq, Int.reduceNeg, Int.reduceAdd, Int.reduceMul, Nat.reduceMul, ms_n, ms_i, ms_l, ms_p, PX, fxX hF2, c2.1]
          rw [if_pos (by omega)]
          cases bz with
          | true =>
            have hbi : (1 : Int) = bi := hbi
            subst hbi
            simp (decide := true) only [RR, ms_app, toList_some, toList_none, if_true, if_false, true_and, and_true, cond_true, sm0, sm1, sm1l, sm2, lc_lt, lc_gt, lc_eq, Int.toNat_natCast, Int.reduceToNat, Nat.reduceAdd, Nat.reduceEqDiff, Int.reduceLT, Int.reduceEq, Int.reduceNeg, Int.reduceAdd, Int.reduceMul, Nat.reduceMul, ms_n, ms_i, ms_l, ms_p, PX, fxX hF2, eR]
            refine ⟨⟨by omega, by omega⟩, ?_⟩
            exact four _ σ2 f2 rfl
          | false =>
            have hbi : (0 : Int) = bi := hbi
            subst hbi
            simp (decide := true) only [RR, ms_app, toList_some, toList_none, if_true, if_false, true_and, and_true, cond_true, sm0, sm1, sm1l, sm2, lc_lt, lc_gt, lc_eq, Int.toNat_natCast, Int.reduceToNat, Nat.reduceAdd, Nat.reduceEqDiff, Int.reduceLT, Int.reduceEq, Int.reduceNeg, Int.reduceAdd, Int.reduceMul, Nat.reduceMul, ms_n, ms_i, ms_l, ms_p, PX, fxX hF2]
            refine At.blk rfl rfl rfl fun sx => ?_
            simp (decide := true) only [RR, ms_app, toList_some, toList_none, if_true, if_false, true_and, and_true, cond_true, sm0, sm1, sm1l, sm2, lc_lt, lc_gt, lc_eq, Int.toNat_natCast, Int.reduceToNat, Nat.reduceAdd, Nat.reduceEqDiff, Int.reduceLT, Int.reduceEq, Int.reduceNeg, Int.reduceAdd, Int.reduceMul, Nat.reduceMul, ms_n, ms_i, ms_l, ms_p, PX, fxX hF2]
            refine cal_of rfl (x_rivalFor34 hF2 hC hwk hj3 c2 s2 (hE.cg (f2 21 4 rfl) (f2.row 23 rfl) (f2.row 24 rfl)) (fun σ3 f3 => ?_))
            simp (decide := true) only [RR, ms_app, toList_some, toList_none, if_true, if_false, true_and, and_true, cond_true, sm0, sm1, sm1l, sm2, lc_lt, lc_gt, lc_eq, Int.toNat_natCast, Int.reduceToNat, Nat.reduceAdd, Nat.reduceEqDiff, Int.reduceLT, Int.reduceEq, Int.reduceNeg, Int.reduceAdd, Int.reduceMul, Nat.reduceMul, ms_n, ms_i, ms_l, ms_p, PX]
            exact four _ σ3 (f2.trans f3) rfl
      have := loop2 C.1 0 rfl (by omega) σ1 o6 Fr.same
      rw [show sumN (rgI bz C (ntM C w k)) 0 = 0 from rfl, Int.add_zero] at this
      exact this
  exact loop n 0 rfl (by omega) _ none none (Fr.copy.mono rfl) (hsx.copy n7)
theorem x_right {a n : Int} (hF : Fix σ) (hW : Wrl σ C w l) (hK : ∀ σ', Fr xrL xrT σ σ' → K (some (.inl (rigV C w a n))) σ') : Mt (d + 7) 120 [.inr (.inr 0), .inl a, .inl n] σ K := by
  refine Mt.go (lv := [some (.inr (.inr 0)), some (.inl a), some (.inl n)]) rfl rfl rfl ?_
  obtain ⟨hC, hcx, hcm, hw, hsx, hsm, hkx, hkm, hkv, h9⟩ := hW
  have n7 := hC.1
  have en : σ 28 2 = w.1 := hsx.1
  unfold rigV at hK
  have no : ¬((0 ≤ a ∧ a ≤ 1) ∧ (1 ≤ n ∧ n ≤ 60 ∧ w.1 + n ≤ 999)) → At (d + 6) 120 1 [some (.inr (.inr 0)), some (.inl a), some (.inl n)] [] σ K := by
    intro h
    rw [if_neg h] at hK
    refine At.blk rfl rfl rfl fun sx => ?_
    simp (decide := true) only [RR, ms_app, toList_some, toList_none, if_true, if_false, true_and, and_true, cond_true, sm0, sm1, sm1l, sm2, lc_lt, lc_gt, lc_eq, Int.toNat_natCast, Int.reduceToNat, Nat.reduceAdd, Nat.reduceEqDiff, Int.reduceLT, Int.reduceEq, Int.reduceNeg, Int.reduceAdd, Int.reduceMul, Nat.reduceMul, ms_n, ms_i, ms_l, ms_p, PX]
    exact hK σ Fr.same
  refine At.blk rfl rfl rfl fun sx => ?_
  simp (decide := true) only [RR, ms_app, toList_some, toList_none, if_true, if_false, true_and, and_true, cond_true, sm0, sm1, sm1l, sm2, lc_lt, lc_gt, lc_eq, Int.toNat_natCast, Int.reduceToNat, Nat.reduceAdd, Nat.reduceEqDiff, Int.reduceLT, Int.reduceEq, Int.reduceNeg, Int.reduceAdd, Int.reduceMul, Nat.reduceMul, ms_n, ms_i, ms_l, ms_p, PX, fxX hF]
  by_cases a0 : a < 0
  · rw [if_pos a0]; exact no (by omega)
  · rw [if_neg a0]
    by_cases a1 : 1 < a
    · rw [if_pos a1]; exact no (by omega)
    · rw [if_neg a1]
      refine cal_of rfl (x_canCome hF (by omega) (by decide) (fun h1 => ?_) (fun h1 => ?_))
      · rw [en] at h1
        obtain ⟨n, rfl⟩ := Int.eq_ofNat_of_zero_le (show 0 ≤ n by omega)
        rw [if_pos (by omega), Int.toNat_natCast] at hK
        simp (decide := true) only [RR, ms_app, toList_some, toList_none, if_true, if_false, true_and, and_true, cond_true, sm0, sm1, sm1l, sm2, lc_lt, lc_gt, lc_eq, Int.toNat_natCast, Int.reduceToNat, Nat.reduceAdd, Nat.reduceEqDiff, Int.reduceLT, Int.reduceEq, Int.reduceNeg, Int.reduceAdd, Int.reduceMul, Nat.reduceMul, ms_n, ms_i, ms_l, ms_p, PX]
        refine At.blk rfl rfl rfl fun sx => ?_
        simp (decide := true) only [RR, ms_app, toList_some, toList_none, if_true, if_false, true_and, and_true, cond_true, sm0, sm1, sm1l, sm2, lc_lt, lc_gt, lc_eq, Int.toNat_natCast, Int.reduceToNat, Nat.reduceAdd, Nat.reduceEqDiff, Int.reduceLT, Int.reduceEq, Int.reduceNeg, Int.reduceAdd, Int.reduceMul, Nat.reduceMul, ms_n, ms_i, ms_l, ms_p, PX, fxX hF]
        by_cases a2 : a = 0
        · rw [if_pos a2]
          rw [decide_eq_true a2] at hK
          refine At.blk rfl rfl rfl fun sx => ?_
          simp (decide := true) only [RR, ms_app, toList_some, toList_none, if_true, if_false, true_and, and_true, cond_true, sm0, sm1, sm1l, sm2, lc_lt, lc_gt, lc_eq, Int.toNat_natCast, Int.reduceToNat, Nat.reduceAdd, Nat.reduceEqDiff, Int.reduceLT, Int.reduceEq, Int.reduceNeg, Int.reduceAdd, Int.reduceMul, Nat.reduceMul, ms_n, ms_i, ms_l, ms_p, PX]
          refine cal_of rfl (x_timesRight (bz := true) hF hC hcx hw hsx (by omega) (by omega) (fun σ1 f1 => ?_))
          simp (decide := true) only [RR, ms_app, toList_some, toList_none, if_true, if_false, true_and, and_true, cond_true, sm0, sm1, sm1l, sm2, lc_lt, lc_gt, lc_eq, Int.toNat_natCast, Int.reduceToNat, Nat.reduceAdd, Nat.reduceEqDiff, Int.reduceLT, Int.reduceEq, Int.reduceNeg, Int.reduceAdd, Int.reduceMul, Nat.reduceMul, ms_n, ms_i, ms_l, ms_p, PX]
          exact hK σ1 f1
        · rw [if_neg a2]
          rw [decide_eq_false a2] at hK
          refine At.blk rfl rfl rfl fun sx => ?_
          simp (decide := true) only [RR, ms_app, toList_some, toList_none, if_true, if_false, true_and, and_true, cond_true, sm0, sm1, sm1l, sm2, lc_lt, lc_gt, lc_eq, Int.toNat_natCast, Int.reduceToNat, Nat.reduceAdd, Nat.reduceEqDiff, Int.reduceLT, Int.reduceEq, Int.reduceNeg, Int.reduceAdd, Int.reduceMul, Nat.reduceMul, ms_n, ms_i, ms_l, ms_p, PX]
          refine At.blk rfl rfl rfl fun sx => ?_
          simp (decide := true) only [RR, ms_app, toList_some, toList_none, if_true, if_false, true_and, and_true, cond_true, sm0, sm1, sm1l, sm2, lc_lt, lc_gt, lc_eq, Int.toNat_natCast, Int.reduceToNat, Nat.reduceAdd, Nat.reduceEqDiff, Int.reduceLT, Int.reduceEq, Int.reduceNeg, Int.reduceAdd, Int.reduceMul, Nat.reduceMul, ms_n, ms_i, ms_l, ms_p, PX]
          refine cal_of rfl (x_timesRight (bz := false) hF hC hcx hw hsx (by omega) (by omega) (fun σ1 f1 => ?_))
          simp (decide := true) only [RR, ms_app, toList_some, toList_none, if_true, if_false, true_and, and_true, cond_true, sm0, sm1, sm1l, sm2, lc_lt, lc_gt, lc_eq, Int.toNat_natCast, Int.reduceToNat, Nat.reduceAdd, Nat.reduceEqDiff, Int.reduceLT, Int.reduceEq, Int.reduceNeg, Int.reduceAdd, Int.reduceMul, Nat.reduceMul, ms_n, ms_i, ms_l, ms_p, PX]
          exact hK σ1 f1
      · rw [en] at h1
        simp (decide := true) only [RR, ms_app, toList_some, toList_none, if_true, if_false, true_and, and_true, cond_true, sm0, sm1, sm1l, sm2, lc_lt, lc_gt, lc_eq, Int.toNat_natCast, Int.reduceToNat, Nat.reduceAdd, Nat.reduceEqDiff, Int.reduceLT, Int.reduceEq, Int.reduceNeg, Int.reduceAdd, Int.reduceMul, Nat.reduceMul, ms_n, ms_i, ms_l, ms_p, PX]
        exact no (by omega)
theorem Th.c {j : Nat} {v : Int} (h : Th σ0 σ) (hj : thT.elem (146, j) = true) (h53 : j ≠ 53) : Th σ0 (mj_set σ 146 j v) :=
  ⟨h.1.set (by rw [hj]; rfl), fun k hk => h.2.1 k hk, fun k hk => h.2.2.1 k hk, by rw [ms_app, if_pos rfl, if_neg (Ne.symm h53)]; exact h.2.2.2⟩
theorem m_right {a n : Int} (hF : Fix σ) (hW : Wrl σ C w l) (h53 : σ 146 53 = 0) (hK : ∀ σ', Fr mrL mrT σ σ' → K (some (.inl (rigV C w a n))) σ') : Mt (d + 12) 215 [.inr (.inr 146), .inl a, .inl n] σ K := by
  refine Mt.go (lv := [some (.inr (.inr 146)), some (.inl a), some (.inl n)]) rfl rfl rfl ?_
  obtain ⟨hC, hcx, hcm, hw, hsx, hsm, hkx, hkm, hkv, h9⟩ := hW
  have n7 := hC.1
  have em : σ 182 0 = w.1 := hsm.1
  unfold rigV at hK
  have no : ¬((0 ≤ a ∧ a ≤ 1) ∧ (1 ≤ n ∧ n ≤ 60 ∧ w.1 + n ≤ 999)) → At (d + 11) 215 1 [some (.inr (.inr 146)), some (.inl a), some (.inl n)] [] σ K := by
    intro h
    rw [if_neg h] at hK
    refine At.blk rfl rfl rfl fun sx => ?_
    simp (decide := true) only [RR, ms_app, toList_some, toList_none, if_true, if_false, true_and, and_true, cond_true, sm0, sm1, sm1l, sm2, lc_lt, lc_gt, lc_eq, Int.toNat_natCast, Int.reduceToNat, Nat.reduceAdd, Nat.reduceEqDiff, Int.reduceLT, Int.reduceEq, Int.reduceNeg, Int.reduceAdd, Int.reduceMul, Nat.reduceMul, ms_n, ms_i, ms_l, ms_p, PM]
    exact hK σ Fr.same
  refine At.blk rfl rfl rfl fun sx => ?_
  simp (decide := true) only [RR, ms_app, toList_some, toList_none, if_true, if_false, true_and, and_true, cond_true, sm0, sm1, sm1l, sm2, lc_lt, lc_gt, lc_eq, Int.toNat_natCast, Int.reduceToNat, Nat.reduceAdd, Nat.reduceEqDiff, Int.reduceLT, Int.reduceEq, Int.reduceNeg, Int.reduceAdd, Int.reduceMul, Nat.reduceMul, ms_n, ms_i, ms_l, ms_p, PM, fxM hF]
  refine cal_of rfl (m_isIn ?_)
  simp (decide := true) only [RR, ms_app, toList_some, toList_none, if_true, if_false, true_and, and_true, cond_true, sm0, sm1, sm1l, sm2, lc_lt, lc_gt, lc_eq, Int.toNat_natCast, Int.reduceToNat, Nat.reduceAdd, Nat.reduceEqDiff, Int.reduceLT, Int.reduceEq, Int.reduceNeg, Int.reduceAdd, Int.reduceMul, Nat.reduceMul, ms_n, ms_i, ms_l, ms_p, PM]
  by_cases a0 : 0 ≤ a ∧ a ≤ 1
  · rw [if_pos a0, if_neg (by decide)]
    refine cal_of rfl (m_isAhead hF (by omega) (by decide) (by decide) (fun h1 => ?_) (fun h1 => ?_))
    · rw [em] at h1
      obtain ⟨n, rfl⟩ := Int.eq_ofNat_of_zero_le (show 0 ≤ n by omega)
      rw [if_pos (by omega), Int.toNat_natCast] at hK
      simp (decide := true) only [RR, ms_app, toList_some, toList_none, if_true, if_false, true_and, and_true, cond_true, sm0, sm1, sm1l, sm2, lc_lt, lc_gt, lc_eq, Int.toNat_natCast, Int.reduceToNat, Nat.reduceAdd, Nat.reduceEqDiff, Int.reduceLT, Int.reduceEq, Int.reduceNeg, Int.reduceAdd, Int.reduceMul, Nat.reduceMul, ms_n, ms_i, ms_l, ms_p, PM]
      refine At.blk rfl rfl rfl fun sx => ?_
      simp (decide := true) only [RR, ms_app, toList_some, toList_none, if_true, if_false, true_and, and_true, cond_true, sm0, sm1, sm1l, sm2, lc_lt, lc_gt, lc_eq, Int.toNat_natCast, Int.reduceToNat, Nat.reduceAdd, Nat.reduceEqDiff, Int.reduceLT, Int.reduceEq, Int.reduceNeg, Int.reduceAdd, Int.reduceMul, Nat.reduceMul, ms_n, ms_i, ms_l, ms_p, PM]
      refine cal_of rfl (m_putsAside hF (fun σ1 t1 e1 z1 _ => ?_))
      simp (decide := true) only [RR, ms_app, toList_some, toList_none, if_true, if_false, true_and, and_true, cond_true, sm0, sm1, sm1l, sm2, lc_lt, lc_gt, lc_eq, Int.toNat_natCast, Int.reduceToNat, Nat.reduceAdd, Nat.reduceEqDiff, Int.reduceLT, Int.reduceEq, Int.reduceNeg, Int.reduceAdd, Int.reduceMul, Nat.reduceMul, ms_n, ms_i, ms_l, ms_p, PM]
      have t2 := (t1.c (j := 55) (v := 0) rfl (by decide)).c (j := 56) (v := 0) rfl (by decide)
      have hF2 := hF.fr t2.1 rfl
      refine cal_of rfl (m_nights1 hF2 hC hw (by omega) (by omega) t2 hcm (hsm.eq e1 n7) (fun σ3 t3 s3 f3 c4 c5 c6 => ?_))
      have hF3 := hF.fr t3.1 rfl
      have c5 := c5 (by rw [ms_app, if_pos rfl, if_neg (by decide), ms_app, if_pos rfl, if_pos rfl]; decide) (by rw [ms_app, if_pos rfl, if_neg (by decide), ms_app, if_pos rfl, if_pos rfl]; decide)
      have c6 := c6 (by rw [ms_app, if_pos rfl, if_pos rfl]; decide) (by rw [ms_app, if_pos rfl, if_pos rfl]; decide)
      rw [ms_app, if_pos rfl, if_neg (by decide), ms_app, if_pos rfl, if_pos rfl, Int.zero_add] at c5
      rw [ms_app, if_pos rfl, if_pos rfl, Int.zero_add] at c6
      simp (decide := true) only [RR, ms_app, toList_some, toList_none, if_true, if_false, true_and, and_true, cond_true, sm0, sm1, sm1l, sm2, lc_lt, lc_gt, lc_eq, Int.toNat_natCast, Int.reduceToNat, Nat.reduceAdd, Nat.reduceEqDiff, Int.reduceLT, Int.reduceEq, Int.reduceNeg, Int.reduceAdd, Int.reduceMul, Nat.reduceMul, ms_n, ms_i, ms_l, ms_p, PM]
      refine cal_of rfl (m_takesBack hF3 t3 h53 (fun σ4 f4 g4 => ?_))
      have c5 : σ4 146 55 = rbN C w n := (g4 146 55 rfl).trans c5
      have c6 : σ4 146 56 = rvN C w n := (g4 146 56 rfl).trans c6
      simp (decide := true) only [RR, ms_app, toList_some, toList_none, if_true, if_false, true_and, and_true, cond_true, sm0, sm1, sm1l, sm2, lc_lt, lc_gt, lc_eq, Int.toNat_natCast, Int.reduceToNat, Nat.reduceAdd, Nat.reduceEqDiff, Int.reduceLT, Int.reduceEq, Int.reduceNeg, Int.reduceAdd, Int.reduceMul, Nat.reduceMul, ms_n, ms_i, ms_l, ms_p, PM, c5]
      by_cases a2 : a = 0
      · rw [if_pos a2]
        rw [decide_eq_true a2, rgN_t] at hK
        refine At.blk rfl rfl rfl fun sx => ?_
        simp (decide := true) only [RR, ms_app, toList_some, toList_none, if_true, if_false, true_and, and_true, cond_true, sm0, sm1, sm1l, sm2, lc_lt, lc_gt, lc_eq, Int.toNat_natCast, Int.reduceToNat, Nat.reduceAdd, Nat.reduceEqDiff, Int.reduceLT, Int.reduceEq, Int.reduceNeg, Int.reduceAdd, Int.reduceMul, Nat.reduceMul, ms_n, ms_i, ms_l, ms_p, PM]
        exact hK σ4 f4
      · rw [if_neg a2]
        rw [decide_eq_false a2, rgN_f] at hK
        refine At.blk rfl rfl rfl fun sx => ?_
        simp (decide := true) only [RR, ms_app, toList_some, toList_none, if_true, if_false, true_and, and_true, cond_true, sm0, sm1, sm1l, sm2, lc_lt, lc_gt, lc_eq, Int.toNat_natCast, Int.reduceToNat, Nat.reduceAdd, Nat.reduceEqDiff, Int.reduceLT, Int.reduceEq, Int.reduceNeg, Int.reduceAdd, Int.reduceMul, Nat.reduceMul, ms_n, ms_i, ms_l, ms_p, PM, c6]
        refine At.blk rfl rfl rfl fun sx => ?_
        simp (decide := true) only [RR, ms_app, toList_some, toList_none, if_true, if_false, true_and, and_true, cond_true, sm0, sm1, sm1l, sm2, lc_lt, lc_gt, lc_eq, Int.toNat_natCast, Int.reduceToNat, Nat.reduceAdd, Nat.reduceEqDiff, Int.reduceLT, Int.reduceEq, Int.reduceNeg, Int.reduceAdd, Int.reduceMul, Nat.reduceMul, ms_n, ms_i, ms_l, ms_p, PM]
        exact hK σ4 f4
    · rw [em] at h1
      simp (decide := true) only [RR, ms_app, toList_some, toList_none, if_true, if_false, true_and, and_true, cond_true, sm0, sm1, sm1l, sm2, lc_lt, lc_gt, lc_eq, Int.toNat_natCast, Int.reduceToNat, Nat.reduceAdd, Nat.reduceEqDiff, Int.reduceLT, Int.reduceEq, Int.reduceNeg, Int.reduceAdd, Int.reduceMul, Nat.reduceMul, ms_n, ms_i, ms_l, ms_p, PM]
      exact no (by omega)
  · rw [if_neg a0, if_pos rfl]
    exact no (by omega)
end
theorem p_right {σ : mM} (h : Inv σ) (a n : Int) (_ : inR a) (_ : inR n) : PairI Inv 120 215 [.inl a, .inl n] σ := by
  obtain ⟨C, w, l, hW⟩ := h.wrl
  exact ro_pair (v := rigV C w a n) h hW (x_right h.1 hW (fun σ' f => ⟨rfl, f.mono rfl⟩)) (fun σ1 h1 hW1 _ => m_right h1.1 hW1 h1.th0 (fun σ' f => ⟨rfl, f.mono rfl⟩))
