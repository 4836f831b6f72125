/-! comes -/
def cmF (C : Ct) (w : Sk) (p : Nat) : Nat → Nat → Int
  | 0, k => if C.2.1 ≤ (ntM C w k).2.1 p then (k : Int) else -1
  | m + 1, k => if C.2.1 ≤ (ntM C w k).2.1 p then (k : Int) else cmF C w p m (k + 1)
def lstN (w : Sk) (L : Int) : Nat := (if 999 - w.1 < L then 999 - w.1 else L).toNat
def comV (C : Ct) (w : Sk) (a : Int) : Int := if 0 ≤ a ∧ a < C.1 then cmF C w a.toNat (lstN w 60) 0 else -1
section
variable {d : Nat} {σ : mM} {K : Option mV → mM → Prop} {C : Ct} {w : Sk} {l : Kp}
theorem x_firstGale {p : Nat} (hF : Fix σ) (hC : CtV C) (hp : p < C.1) (hcx : CtX σ C) (hw : SkV C w) (hsx : SkX σ 28 C w) (h9 : 0 ≤ w.1 ∧ w.1 ≤ 999) (hK : ∀ σ', Fr xrL xrT σ σ' → K (some (.inl (cmF C w p (lstN w 60) 0))) σ') : Mt (d + 5) 18 [.inr (.inr 33), .inl (p : Int)] σ K := by
  refine Mt.go (lv := [some (.inr (.inr 33)), some (.inl (p : Int)), none, none]) rfl rfl rfl ?_
  have n7 := hC.1
  have en : σ 28 2 = w.1 := hsx.1
  have w0 : Unit → w32 (999 - w.1) = 999 - w.1 := fun _ => w32_small (by omega) (by omega)
  have eL : (if 999 - w.1 < 60 then 999 - w.1 else 60) = ((lstN w 60 : Nat) : Int) := by
    unfold lstN; split <;> omega
  have bL : w.1 + lstN w 60 ≤ 999 ∧ lstN w 60 ≤ 60 := by
    unfold lstN; split <;> omega
  generalize lstN w 60 = L at *
  refine At.blk rfl rfl rfl fun sx => ?_
  simp (decide := true) only [RR, ms_app, toList_some, toList_none, if_true, if_false, true_and, and_true, cond_true, sm0, sm1, sm1l, sm2, lc_lt, lc_gt, lc_eq, Int.toNat_natCast, Int.reduceToNat, Nat.reduceAdd, Nat.reduceEqDiff, Int.reduceLT, Int.reduceEq, Int.reduceNeg, Int.reduceAdd, Int.reduceMul, Nat.reduceMul, ms_n, ms_i, ms_l, ms_p, PX, fxX hF, en, w0 ()]
  refine cal_of rfl (x_iminE ?_)
  rw [eL]
  simp (decide := true) only [RR, ms_app, toList_some, toList_none, if_true, if_false, true_and, and_true, cond_true, sm0, sm1, sm1l, sm2, lc_lt, lc_gt, lc_eq, Int.toNat_natCast, Int.reduceToNat, Nat.reduceAdd, Nat.reduceEqDiff, Int.reduceLT, Int.reduceEq, Int.reduceNeg, Int.reduceAdd, Int.reduceMul, Nat.reduceMul, ms_n, ms_i, ms_l, ms_p, PX, fxX hF]
  refine cal_of rfl (x_skyCopy hF rfl rfl (by omega) ?_)
  simp (decide := true) only [RR, ms_app, toList_some, toList_none, if_true, if_false, true_and, and_true, cond_true, sm0, sm1, sm1l, sm2, lc_lt, lc_gt, lc_eq, Int.toNat_natCast, Int.reduceToNat, Nat.reduceAdd, Nat.reduceEqDiff, Int.reduceLT, Int.reduceEq, Int.reduceNeg, Int.reduceAdd, Int.reduceMul, Nat.reduceMul, ms_n, ms_i, ms_l, ms_p, PX]
  have loop : ∀ m k : Nat, L - k = m → k ≤ L → ∀ σ', Fr xrL xrT σ σ' → SkX σ' 34 C (ntM C w k) → (∀ σ', Fr xrL xrT σ σ' → K (some (.inl (cmF C w p m k))) σ') → At (d + 4) 18 1 [some (.inr (.inr 33)), some (.inl (p : Int)), some (.inl (L : Int)), some (.inl (k : Int))] [] σ' K := by
    intro m
    induction m with
    | zero =>
      intro k hk hk2 σ' fr s hQ
      obtain rfl : k = L := by omega
      have hF' := hF.fr fr rfl
      have c8 := hcx.xr fr
      have ep : σ' 35 p = (ntM C w k).2.1 p := (s.2.2.2 p hp).1
      have wn := ntM_night (C := C) (w := w) k
      have hwk := ntM_V hw k (by omega)
      have w1 : Unit → w32 ((k : Int) + 1) = ((k + 1 : Nat) : Int) := fun _ => by rw [w32_small (by omega) (by omega)]; omega
      simp only [cmF] at hQ
      refine At.blk rfl rfl rfl fun sx => ?_
      simp (decide := true) only [RR, ms_app, toList_some, toList_none, if_true, if_false, true_and, and_true, cond_true, sm0, sm1, sm1l, sm2, lc_lt, lc_gt, lc_eq, Int.toNat_natCast, Int.reduceToNat, Nat.reduceAdd, Nat.reduceEqDiff, Int.reduceLT, Int.reduceEq, Int.reduceNeg, Int.reduceAdd, Int.reduceMul, Nat.reduceMul, ms_n, ms_i, ms_l, ms_p, PX, fxX hF', ep, c8.2.1]
      rw [if_neg (by omega)]
      refine ⟨⟨by omega, by omega⟩, ?_⟩
      by_cases g : C.2.1 ≤ (ntM C w k).2.1 p
      · rw [if_pos g] at hQ
        rw [if_neg (by omega)]
        exact hQ σ' fr
      · rw [if_neg g] at hQ
        rw [if_pos (by omega)]
        refine At.blk rfl rfl rfl fun sx => ?_
        simp (decide := true) only [RR, ms_app, toList_some, toList_none, if_true, if_false, true_and, and_true, cond_true, sm0, sm1, sm1l, sm2, lc_lt, lc_gt, lc_eq, Int.toNat_natCast, Int.reduceToNat, Nat.reduceAdd, Nat.reduceEqDiff, Int.reduceLT, Int.reduceEq, Int.reduceNeg, Int.reduceAdd, Int.reduceMul, Nat.reduceMul, ms_n, ms_i, ms_l, ms_p, PX, fxX hF']
        refine cal_of rfl (x_foresee34 hF' hC hwk c8 s (fun σ1 f1 hE h1 => ?_))
        have hF1 := hF'.fr f1 rfl
        simp (decide := true) only [RR, ms_app, toList_some, toList_none, if_true, if_false, true_and, and_true, cond_true, sm0, sm1, sm1l, sm2, lc_lt, lc_gt, lc_eq, Int.toNat_natCast, Int.reduceToNat, Nat.reduceAdd, Nat.reduceEqDiff, Int.reduceLT, Int.reduceEq, Int.reduceNeg, Int.reduceAdd, Int.reduceMul, Nat.reduceMul, ms_n, ms_i, ms_l, ms_p, PX, fxX hF1]
        refine cal_of rfl (x_pass34 hF1 hC hwk (c8.xw f1) (s.xw34 f1) (fun p hp => (h1 p hp).2.2) (fun σ2 f2 s2 => ?_))
        simp (decide := true) only [RR, ms_app, toList_some, toList_none, if_true, if_false, true_and, and_true, cond_true, sm0, sm1, sm1l, sm2, lc_lt, lc_gt, lc_eq, Int.toNat_natCast, Int.reduceToNat, Nat.reduceAdd, Nat.reduceEqDiff, Int.reduceLT, Int.reduceEq, Int.reduceNeg, Int.reduceAdd, Int.reduceMul, Nat.reduceMul, ms_n, ms_i, ms_l, ms_p, PX, w1 ()]
        refine At.blk rfl rfl rfl fun sx => ?_
        simp (decide := true) only [RR, ms_app, toList_some, toList_none, if_true, if_false, true_and, and_true, cond_true, sm0, sm1, sm1l, sm2, lc_lt, lc_gt, lc_eq, Int.toNat_natCast, Int.reduceToNat, Nat.reduceAdd, Nat.reduceEqDiff, Int.reduceLT, Int.reduceEq, Int.reduceNeg, Int.reduceAdd, Int.reduceMul, Nat.reduceMul, ms_n, ms_i, ms_l, ms_p, PX]
        rw [if_pos (by omega)]
        refine At.blk rfl rfl rfl fun sx => ?_
        simp (decide := true) only [RR, ms_app, toList_some, toList_none, if_true, if_false, true_and, and_true, cond_true, sm0, sm1, sm1l, sm2, lc_lt, lc_gt, lc_eq, Int.toNat_natCast, Int.reduceToNat, Nat.reduceAdd, Nat.reduceEqDiff, Int.reduceLT, Int.reduceEq, Int.reduceNeg, Int.reduceAdd, Int.reduceMul, Nat.reduceMul, ms_n, ms_i, ms_l, ms_p, PX]
        exact hQ σ2 ((fr.trans (f1.mono rfl)).trans (f2.mono rfl))
    | succ m ih =>
      intro k hk hk2 σ' fr s hQ
      have hF' := hF.fr fr rfl
      have c8 := hcx.xr fr
      have ep : σ' 35 p = (ntM C w k).2.1 p := (s.2.2.2 p hp).1
      have wn := ntM_night (C := C) (w := w) k
      have hwk := ntM_V hw k (by omega)
      have w1 : Unit → w32 ((k : Int) + 1) = ((k + 1 : Nat) : Int) := fun _ => by rw [w32_small (by omega) (by omega)]; omega
      simp only [cmF] at hQ
      refine At.blk rfl rfl rfl fun sx => ?_
      simp (decide := true) only [RR, ms_app, toList_some, toList_none, if_true, if_false, true_and, and_true, cond_true, sm0, sm1, sm1l, sm2, lc_lt, lc_gt, lc_eq, Int.toNat_natCast, Int.reduceToNat, Nat.reduceAdd, Nat.reduceEqDiff, Int.reduceLT, Int.reduceEq, Int.reduceNeg, Int.reduceAdd, Int.reduceMul, Nat.reduceMul, ms_n, ms_i, ms_l, ms_p, PX, fxX hF', ep, c8.2.1]
      rw [if_neg (by omega)]
      refine ⟨⟨by omega, by omega⟩, ?_⟩
      by_cases g : C.2.1 ≤ (ntM C w k).2.1 p
      · rw [if_pos g] at hQ
        rw [if_neg (by omega)]
        exact hQ σ' fr
      · rw [if_neg g] at hQ
        rw [if_pos (by omega)]
        refine At.blk rfl rfl rfl fun sx => ?_
        simp (decide := true) only [RR, ms_app, toList_some, toList_none, if_true, if_false, true_and, and_true, cond_true, sm0, sm1, sm1l, sm2, lc_lt, lc_gt, lc_eq, Int.toNat_natCast, Int.reduceToNat, Nat.reduceAdd, Nat.reduceEqDiff, Int.reduceLT, Int.reduceEq, Int.reduceNeg, Int.reduceAdd, Int.reduceMul, Nat.reduceMul, ms_n, ms_i, ms_l, ms_p, PX, fxX hF']
        refine cal_of rfl (x_foresee34 hF' hC hwk c8 s (fun σ1 f1 hE h1 => ?_))
        have hF1 := hF'.fr f1 rfl
        simp (decide := true) only [RR, ms_app, toList_some, toList_none, if_true, if_false, true_and, and_true, cond_true, sm0, sm1, sm1l, sm2, lc_lt, lc_gt, lc_eq, Int.toNat_natCast, Int.reduceToNat, Nat.reduceAdd, Nat.reduceEqDiff, Int.reduceLT, Int.reduceEq, Int.reduceNeg, Int.reduceAdd, Int.reduceMul, Nat.reduceMul, ms_n, ms_i, ms_l, ms_p, PX, fxX hF1]
        refine cal_of rfl (x_pass34 hF1 hC hwk (c8.xw f1) (s.xw34 f1) (fun p hp => (h1 p hp).2.2) (fun σ2 f2 s2 => ?_))
        simp (decide := true) only [RR, ms_app, toList_some, toList_none, if_true, if_false, true_and, and_true, cond_true, sm0, sm1, sm1l, sm2, lc_lt, lc_gt, lc_eq, Int.toNat_natCast, Int.reduceToNat, Nat.reduceAdd, Nat.reduceEqDiff, Int.reduceLT, Int.reduceEq, Int.reduceNeg, Int.reduceAdd, Int.reduceMul, Nat.reduceMul, ms_n, ms_i, ms_l, ms_p, PX, w1 ()]
        rw [nxC_eq (by omega)] at s2
        exact ih (k + 1) (by omega) (by omega) σ2 ((fr.trans (f1.mono rfl)).trans (f2.mono rfl)) s2 hQ
  exact loop L 0 rfl (by omega) _ (Fr.copy.mono rfl) (hsx.copy n7) hK
theorem x_comes {a : Int} (hF : Fix σ) (hW : Wrl σ C w l) (hK : ∀ σ', Fr xrL xrT σ σ' → K (some (.inl (comV C w a))) σ') : Mt (d + 6) 116 [.inr (.inr 0), .inl a] σ K := by
  refine Mt.go (lv := [some (.inr (.inr 0)), some (.inl a)]) rfl rfl rfl ?_
  obtain ⟨hC, hcx, hcm, hw, hsx, hsm, hkx, hkm, hkv, h9⟩ := hW
  have n7 := hC.1
  unfold comV at hK
  refine At.blk rfl rfl rfl fun sx => ?_
  simp (decide := true) only [RR, ms_app, toList_some, toList_none, if_true, if_false, true_and, and_true, cond_true, sm0, sm1, sm1l, sm2, lc_lt, lc_gt, lc_eq, Int.toNat_natCast, Int.reduceToNat, Nat.reduceAdd, Nat.reduceEqDiff, Int.reduceLT, Int.reduceEq, Int.reduceNeg, Int.reduceAdd, Int.reduceMul, Nat.reduceMul, ms_n, ms_i, ms_l, ms_p, PX, fxX hF]
  refine cal_of rfl (x_holds3 (fun hh => ?_) (fun hh => ?_))
  · rw [hcx.1] at hh
    obtain ⟨p, rfl⟩ := Int.eq_ofNat_of_zero_le hh.1
    rw [if_pos hh, Int.toNat_natCast] at hK
    simp (decide := true) only [RR, ms_app, toList_some, toList_none, if_true, if_false, true_and, and_true, cond_true, sm0, sm1, sm1l, sm2, lc_lt, lc_gt, lc_eq, Int.toNat_natCast, Int.reduceToNat, Nat.reduceAdd, Nat.reduceEqDiff, Int.reduceLT, Int.reduceEq, Int.reduceNeg, Int.reduceAdd, Int.reduceMul, Nat.reduceMul, ms_n, ms_i, ms_l, ms_p, PX, fxX hF]
    refine cal_of rfl (x_firstGale hF hC (by omega) hcx hw hsx h9 (fun σ1 f1 => ?_))
    simp (decide := true) only [RR, ms_app, toList_some, toList_none, if_true, if_false, true_and, and_true, cond_true, sm0, sm1, sm1l, sm2, lc_lt, lc_gt, lc_eq, Int.toNat_natCast, Int.reduceToNat, Nat.reduceAdd, Nat.reduceEqDiff, Int.reduceLT, Int.reduceEq, Int.reduceNeg, Int.reduceAdd, Int.reduceMul, Nat.reduceMul, ms_n, ms_i, ms_l, ms_p, PX]
    refine At.blk rfl rfl rfl fun sx => ?_
    simp (decide := true) only [RR, ms_app, toList_some, toList_none, if_true, if_false, true_and, and_true, cond_true, sm0, sm1, sm1l, sm2, lc_lt, lc_gt, lc_eq, Int.toNat_natCast, Int.reduceToNat, Nat.reduceAdd, Nat.reduceEqDiff, Int.reduceLT, Int.reduceEq, Int.reduceNeg, Int.reduceAdd, Int.reduceMul, Nat.reduceMul, ms_n, ms_i, ms_l, ms_p, PX]
    exact hK σ1 f1
  · rw [hcx.1] at hh
    rw [if_neg hh] at hK
    simp (decide := true) only [RR, ms_app, toList_some, toList_none, if_true, if_false, true_and, and_true, cond_true, sm0, sm1, sm1l, sm2, lc_lt, lc_gt, lc_eq, Int.toNat_natCast, Int.reduceToNat, Nat.reduceAdd, Nat.reduceEqDiff, Int.reduceLT, Int.reduceEq, Int.reduceNeg, Int.reduceAdd, Int.reduceMul, Nat.reduceMul, ms_n, ms_i, ms_l, ms_p, PX]
    refine At.blk rfl rfl rfl fun sx => ?_
    simp (decide := true) only [RR, ms_app, toList_some, toList_none, if_true, if_false, true_and, and_true, cond_true, sm0, sm1, sm1l, sm2, lc_lt, lc_gt, lc_eq, Int.toNat_natCast, Int.reduceToNat, Nat.reduceAdd, Nat.reduceEqDiff, Int.reduceLT, Int.reduceEq, Int.reduceNeg, Int.reduceAdd, Int.reduceMul, Nat.reduceMul, ms_n, ms_i, ms_l, ms_p, PX]
    refine At.blk rfl rfl rfl fun sx => ?_
    simp (decide := true) only [RR, ms_app, toList_some, toList_none, if_true, if_false, true_and, and_true, cond_true, sm0, sm1, sm1l, sm2, lc_lt, lc_gt, lc_eq, Int.toNat_natCast, Int.reduceToNat, Nat.reduceAdd, Nat.reduceEqDiff, Int.reduceLT, Int.reduceEq, Int.reduceNeg, Int.reduceAdd, Int.reduceMul, Nat.reduceMul, ms_n, ms_i, ms_l, ms_p, PX]
    exact hK σ Fr.same
theorem m_comes {a : Int} (hF : Fix σ) (hW : Wrl σ C w l) (h53 : σ 146 53 = 0) (hK : ∀ σ', Fr mrL mrT σ σ' → K (some (.inl (comV C w a))) σ') : Mt (d + 12) 209 [.inr (.inr 146), .inl a] σ K := by
  refine Mt.go (lv := [some (.inr (.inr 146)), some (.inl a), none, none]) rfl rfl rfl ?_
  obtain ⟨hC, hcx, hcm, hw, hsx, hsm, hkx, hkm, hkv, h9⟩ := hW
  have n7 := hC.1
  unfold comV at hK
  refine At.blk rfl rfl rfl fun sx => ?_
  simp (decide := true) only [RR, ms_app, toList_some, toList_none, if_true, if_false, true_and, and_true, cond_true, sm0, sm1, sm1l, sm2, lc_lt, lc_gt, lc_eq, Int.toNat_natCast, Int.reduceToNat, Nat.reduceAdd, Nat.reduceEqDiff, Int.reduceLT, Int.reduceEq, Int.reduceNeg, Int.reduceAdd, Int.reduceMul, Nat.reduceMul, ms_n, ms_i, ms_l, ms_p, PM, fxM hF]
  refine cal_of rfl (m_isPart hF (by rw [hcm.1]; omega) (fun hh => ?_) (fun hh => ?_))
  · rw [hcm.1] at hh
    obtain ⟨p, rfl⟩ := Int.eq_ofNat_of_zero_le hh.1
    have hp : p < C.1 := by omega
    rw [if_pos hh, Int.toNat_natCast] at hK
    have bL : w.1 + lstN w 60 ≤ 999 ∧ lstN w 60 ≤ 60 ∧ (lstN w 60 = 60 ∨ w.1 + lstN w 60 = 999) := by
      unfold lstN; split <;> omega
    generalize lstN w 60 = L at *
    simp (decide := true) only [RR, ms_app, toList_some, toList_none, if_true, if_false, true_and, and_true, cond_true, sm0, sm1, sm1l, sm2, lc_lt, lc_gt, lc_eq, Int.toNat_natCast, Int.reduceToNat, Nat.reduceAdd, Nat.reduceEqDiff, Int.reduceLT, Int.reduceEq, Int.reduceNeg, Int.reduceAdd, Int.reduceMul, Nat.reduceMul, ms_n, ms_i, ms_l, ms_p, PM]
    refine At.blk rfl rfl rfl fun sx => ?_
    simp (decide := true) only [RR, ms_app, toList_some, toList_none, if_true, if_false, true_and, and_true, cond_true, sm0, sm1, sm1l, sm2, lc_lt, lc_gt, lc_eq, Int.toNat_natCast, Int.reduceToNat, Nat.reduceAdd, Nat.reduceEqDiff, Int.reduceLT, Int.reduceEq, Int.reduceNeg, Int.reduceAdd, Int.reduceMul, Nat.reduceMul, ms_n, ms_i, ms_l, ms_p, PM]
    refine cal_of rfl (m_putsAside hF (fun σ1 t1 e1 _ _ => ?_))
    simp (decide := true) only [RR, ms_app, toList_some, toList_none, if_true, if_false, true_and, and_true, cond_true, sm0, sm1, sm1l, sm2, lc_lt, lc_gt, lc_eq, Int.toNat_natCast, Int.reduceToNat, Nat.reduceAdd, Nat.reduceEqDiff, Int.reduceLT, Int.reduceEq, Int.reduceNeg, Int.reduceAdd, Int.reduceMul, Nat.reduceMul, ms_n, ms_i, ms_l, ms_p, PM]
    have three : ∀ (σ' : mM) (k : Nat) (v : Int) (o : Option mV), Th σ σ' → SkM σ' C (ntM C w k) → v = (if C.2.1 ≤ (ntM C w k).2.1 p then (k : Int) else -1) → (∀ σ', Fr mrL mrT σ σ' → K (some (.inl v)) σ') → At (d + 11) 209 3 [some (.inr (.inr 146)), some (.inl (p : Int)), some (.inl (k : Int)), o] [] σ' K := by
      intro σ' k v o t s hv hK
      have hF' := hF.fr t.1 rfl
      have c8 := hcm.th t.1
      refine At.blk rfl rfl rfl fun sx => ?_
      simp (decide := true) only [RR, ms_app, toList_some, toList_none, if_true, if_false, true_and, and_true, cond_true, sm0, sm1, sm1l, sm2, lc_lt, lc_gt, lc_eq, Int.toNat_natCast, Int.reduceToNat, Nat.reduceAdd, Nat.reduceEqDiff, Int.reduceLT, Int.reduceEq, Int.reduceNeg, Int.reduceAdd, Int.reduceMul, Nat.reduceMul, ms_n, ms_i, ms_l, ms_p, PM]
      refine cal_of rfl (m_isGale hF' (by omega) (fun g => ?_) (fun g => ?_))
      · rw [Int.toNat_natCast, (s.2 p hp).1, c8.2.1] at g
        rw [if_pos g] at hv
        simp (decide := true) only [RR, ms_app, toList_some, toList_none, if_true, if_false, true_and, and_true, cond_true, sm0, sm1, sm1l, sm2, lc_lt, lc_gt, lc_eq, Int.toNat_natCast, Int.reduceToNat, Nat.reduceAdd, Nat.reduceEqDiff, Int.reduceLT, Int.reduceEq, Int.reduceNeg, Int.reduceAdd, Int.reduceMul, Nat.reduceMul, ms_n, ms_i, ms_l, ms_p, PM]
        refine cal_of rfl (m_takesBack hF' t h53 (fun σ3 f3 _ => ?_))
        simp (decide := true) only [RR, ms_app, toList_some, toList_none, if_true, if_false, true_and, and_true, cond_true, sm0, sm1, sm1l, sm2, lc_lt, lc_gt, lc_eq, Int.toNat_natCast, Int.reduceToNat, Nat.reduceAdd, Nat.reduceEqDiff, Int.reduceLT, Int.reduceEq, Int.reduceNeg, Int.reduceAdd, Int.reduceMul, Nat.reduceMul, ms_n, ms_i, ms_l, ms_p, PM]
        refine At.blk rfl rfl rfl fun sx => ?_
        simp (decide := true) only [RR, ms_app, toList_some, toList_none, if_true, if_false, true_and, and_true, cond_true, sm0, sm1, sm1l, sm2, lc_lt, lc_gt, lc_eq, Int.toNat_natCast, Int.reduceToNat, Nat.reduceAdd, Nat.reduceEqDiff, Int.reduceLT, Int.reduceEq, Int.reduceNeg, Int.reduceAdd, Int.reduceMul, Nat.reduceMul, ms_n, ms_i, ms_l, ms_p, PM]
        rw [← hv]
        exact hK σ3 f3
      · rw [Int.toNat_natCast, (s.2 p hp).1, c8.2.1] at g
        rw [if_neg (by omega)] at hv
        simp (decide := true) only [RR, ms_app, toList_some, toList_none, if_true, if_false, true_and, and_true, cond_true, sm0, sm1, sm1l, sm2, lc_lt, lc_gt, lc_eq, Int.toNat_natCast, Int.reduceToNat, Nat.reduceAdd, Nat.reduceEqDiff, Int.reduceLT, Int.reduceEq, Int.reduceNeg, Int.reduceAdd, Int.reduceMul, Nat.reduceMul, ms_n, ms_i, ms_l, ms_p, PM]
        refine cal_of rfl (m_takesBack hF' t h53 (fun σ3 f3 _ => ?_))
        simp (decide := true) only [RR, ms_app, toList_some, toList_none, if_true, if_false, true_and, and_true, cond_true, sm0, sm1, sm1l, sm2, lc_lt, lc_gt, lc_eq, Int.toNat_natCast, Int.reduceToNat, Nat.reduceAdd, Nat.reduceEqDiff, Int.reduceLT, Int.reduceEq, Int.reduceNeg, Int.reduceAdd, Int.reduceMul, Nat.reduceMul, ms_n, ms_i, ms_l, ms_p, PM]
        refine At.blk rfl rfl rfl fun sx => ?_
        simp (decide := true) only [RR, ms_app, toList_some, toList_none, if_true, if_false, true_and, and_true, cond_true, sm0, sm1, sm1l, sm2, lc_lt, lc_gt, lc_eq, Int.toNat_natCast, Int.reduceToNat, Nat.reduceAdd, Nat.reduceEqDiff, Int.reduceLT, Int.reduceEq, Int.reduceNeg, Int.reduceAdd, Int.reduceMul, Nat.reduceMul, ms_n, ms_i, ms_l, ms_p, PM]
        refine At.blk rfl rfl rfl fun sx => ?_
        simp (decide := true) only [RR, ms_app, toList_some, toList_none, if_true, if_false, true_and, and_true, cond_true, sm0, sm1, sm1l, sm2, lc_lt, lc_gt, lc_eq, Int.toNat_natCast, Int.reduceToNat, Nat.reduceAdd, Nat.reduceEqDiff, Int.reduceLT, Int.reduceEq, Int.reduceNeg, Int.reduceAdd, Int.reduceMul, Nat.reduceMul, ms_n, ms_i, ms_l, ms_p, PM]
        rw [← hv]
        exact hK σ3 f3
    have loop : ∀ m k : Nat, L - k = m → k ≤ L → ∀ σ', Th σ σ' → SkM σ' C (ntM C w k) → (∀ σ', Fr mrL mrT σ σ' → K (some (.inl (cmF C w p m k))) σ') → At (d + 11) 209 2 [some (.inr (.inr 146)), some (.inl (p : Int)), some (.inl (k : Int)), none] [] σ' K := by
      intro m
      induction m with
      | zero =>
        intro k hk hk2 σ' t s hQ
        obtain rfl : k = L := by omega
        have hF' := hF.fr t.1 rfl
        have c8 := hcm.th t.1
        have wn := ntM_night (C := C) (w := w) k
        have e0 : σ' 182 0 = w.1 + k := by rw [← wn]; exact s.1
        simp only [cmF] at hQ
        refine At.blk rfl rfl rfl fun sx => ?_
        simp (decide := true) only [RR, ms_app, toList_some, toList_none, if_true, if_false, true_and, and_true, cond_true, sm0, sm1, sm1l, sm2, lc_lt, lc_gt, lc_eq, Int.toNat_natCast, Int.reduceToNat, Nat.reduceAdd, Nat.reduceEqDiff, Int.reduceLT, Int.reduceEq, Int.reduceNeg, Int.reduceAdd, Int.reduceMul, Nat.reduceMul, ms_n, ms_i, ms_l, ms_p, PM]
        refine cal_of rfl (m_isGale hF' (by omega) (fun g => ?_) (fun g => ?_))
        · simp (decide := true) only [RR, ms_app, toList_some, toList_none, if_true, if_false, true_and, and_true, cond_true, sm0, sm1, sm1l, sm2, lc_lt, lc_gt, lc_eq, Int.toNat_natCast, Int.reduceToNat, Nat.reduceAdd, Nat.reduceEqDiff, Int.reduceLT, Int.reduceEq, Int.reduceNeg, Int.reduceAdd, Int.reduceMul, Nat.reduceMul, ms_n, ms_i, ms_l, ms_p, PM]
          exact three σ' k _ none t s rfl hQ
        · simp (decide := true) only [RR, ms_app, toList_some, toList_none, if_true, if_false, true_and, and_true, cond_true, sm0, sm1, sm1l, sm2, lc_lt, lc_gt, lc_eq, Int.toNat_natCast, Int.reduceToNat, Nat.reduceAdd, Nat.reduceEqDiff, Int.reduceLT, Int.reduceEq, Int.reduceNeg, Int.reduceAdd, Int.reduceMul, Nat.reduceMul, ms_n, ms_i, ms_l, ms_p, PM, fxM hF', e0]
          by_cases k60 : (k : Int) < 60
          · rw [if_pos k60, if_neg (by omega)]
            exact three σ' k _ none t s rfl hQ
          · rw [if_neg k60]
            exact three σ' k _ none t s rfl hQ
      | succ m ih =>
        intro k hk hk2 σ' t s hQ
        have hF' := hF.fr t.1 rfl
        have c8 := hcm.th t.1
        have wn := ntM_night (C := C) (w := w) k
        have e0 : σ' 182 0 = w.1 + k := by rw [← wn]; exact s.1
        have w1 : Unit → w32 ((k : Int) + 1) = ((k + 1 : Nat) : Int) := fun _ => by rw [w32_small (by omega) (by omega)]; omega
        simp only [cmF] at hQ
        refine At.blk rfl rfl rfl fun sx => ?_
        simp (decide := true) only [RR, ms_app, toList_some, toList_none, if_true, if_false, true_and, and_true, cond_true, sm0, sm1, sm1l, sm2, lc_lt, lc_gt, lc_eq, Int.toNat_natCast, Int.reduceToNat, Nat.reduceAdd, Nat.reduceEqDiff, Int.reduceLT, Int.reduceEq, Int.reduceNeg, Int.reduceAdd, Int.reduceMul, Nat.reduceMul, ms_n, ms_i, ms_l, ms_p, PM]
        refine cal_of rfl (m_isGale hF' (by omega) (fun g => ?_) (fun g => ?_))
        · rw [Int.toNat_natCast, (s.2 p hp).1, c8.2.1] at g
          simp (decide := true) only [RR, ms_app, toList_some, toList_none, if_true, if_false, true_and, and_true, cond_true, sm0, sm1, sm1l, sm2, lc_lt, lc_gt, lc_eq, Int.toNat_natCast, Int.reduceToNat, Nat.reduceAdd, Nat.reduceEqDiff, Int.reduceLT, Int.reduceEq, Int.reduceNeg, Int.reduceAdd, Int.reduceMul, Nat.reduceMul, ms_n, ms_i, ms_l, ms_p, PM]
          rw [if_pos g] at hQ
          exact three σ' k _ none t s (by rw [if_pos g]) hQ
        · rw [Int.toNat_natCast, (s.2 p hp).1, c8.2.1] at g
          rw [if_neg (by omega)] at hQ
          simp (decide := true) only [RR, ms_app, toList_some, toList_none, if_true, if_false, true_and, and_true, cond_true, sm0, sm1, sm1l, sm2, lc_lt, lc_gt, lc_eq, Int.toNat_natCast, Int.reduceToNat, Nat.reduceAdd, Nat.reduceEqDiff, Int.reduceLT, Int.reduceEq, Int.reduceNeg, Int.reduceAdd, Int.reduceMul, Nat.reduceMul, ms_n, ms_i, ms_l, ms_p, PM, fxM hF', e0]
          rw [if_pos (by omega), if_pos (by omega)]
          refine cal_of rfl (m_goes1 hF' hC (ntM_V hw k (by omega)) (by omega) t hcm s (fun σ2 t2 s2 _ => ?_))
          simp (decide := true) only [RR, ms_app, toList_some, toList_none, if_true, if_false, true_and, and_true, cond_true, sm0, sm1, sm1l, sm2, lc_lt, lc_gt, lc_eq, Int.toNat_natCast, Int.reduceToNat, Nat.reduceAdd, Nat.reduceEqDiff, Int.reduceLT, Int.reduceEq, Int.reduceNeg, Int.reduceAdd, Int.reduceMul, Nat.reduceMul, ms_n, ms_i, ms_l, ms_p, PM, w1 ()]
          exact ih (k + 1) (by omega) (by omega) σ2 t2 s2 hQ
    exact loop L 0 rfl (by omega) σ1 t1 (hsm.eq e1 n7) hK
  · rw [hcm.1] at hh
    rw [if_neg hh] at hK
    simp (decide := true) only [RR, ms_app, toList_some, toList_none, if_true, if_false, true_and, and_true, cond_true, sm0, sm1, sm1l, sm2, lc_lt, lc_gt, lc_eq, Int.toNat_natCast, Int.reduceToNat, Nat.reduceAdd, Nat.reduceEqDiff, Int.reduceLT, Int.reduceEq, Int.reduceNeg, Int.reduceAdd, Int.reduceMul, Nat.reduceMul, ms_n, ms_i, ms_l, ms_p, PM]
    exact hK σ Fr.same
end
theorem p_comes {σ : mM} (h : Inv σ) (a : Int) (_ : inR a) : PairI Inv 116 209 [.inl a] σ := by
  obtain ⟨C, w, l, hW⟩ := h.wrl
  exact ro_pair (v := comV C w a) h hW (x_comes h.1 hW (fun σ' f => ⟨rfl, f.mono rfl⟩)) (fun σ1 h1 hW1 _ => m_comes h1.1 hW1 h1.th0 (fun σ' f => ⟨rfl, f.mono rfl⟩))
/-! self -/
def bitsN (f : Nat → Bool) : Nat → Nat
  | 0 => 0
  | k + 1 => bitsN f k + (if f k = true then 2 ^ k else 0)
theorem bitsN_s {f : Nat → Bool} {k : Nat} : bitsN f (k + 1) = bitsN f k + (if f k = true then 2 ^ k else 0) := rfl
theorem bitsN_lt (f : Nat → Bool) : ∀ k, bitsN f k < 2 ^ k
  | 0 => Nat.zero_lt_one
  | k + 1 => by
    have := bitsN_lt f k
    have e : 2 ^ (k + 1) = 2 * 2 ^ k := by rw [Nat.pow_succ]; omega
    rw [bitsN_s]
    split <;> omega
theorem bitsN_or {f : Nat → Bool} {k : Nat} (hk : k < 30) (hf : f k = true) : i_or ((bitsN f k : Nat) : Int) (i_shl 1 (k : Int)) = ((bitsN f (k + 1) : Nat) : Int) := by
  have h1 := bitsN_lt f k
  have h2 : (2 : Nat) ^ k ≤ 2 ^ 29 := Nat.pow_le_pow_right (by decide) (by omega)
  have e := i_shl_nat (a := 1) (k := k) (by omega) (by omega)
  rw [show ((1 : Nat) : Int) = 1 from rfl, Nat.one_mul] at e
  rw [e]
  have e2 := i_or_add2 (k := k) (x := 1) (b := bitsN f k) h1 (by omega)
  rw [Nat.mul_one] at e2
  rw [e2]
  rw [bitsN_s]
  rw [if_pos hf]; omega
theorem bitsN_no {f : Nat → Bool} {k : Nat} (hf : f k = false) : bitsN f (k + 1) = bitsN f k := by
  show bitsN f k + (if f k = true then 2 ^ k else 0) = _
  rw [hf, if_neg (by decide)]; omega
theorem bitsN_bit {f : Nat → Bool} {v : Nat} : ∀ n, v < n → bit ((bitsN f n : Nat) : Int) v = if f v = true then 1 else 0
  | 0, h => absurd h (by omega)
  | n + 1, h => by
    have hb := bitsN_lt f n
    have key : bit ((bitsN f (n + 1) : Nat) : Int) v = ((bitsN f (n + 1) / 2 ^ v % 2 : Nat) : Int) := by
      unfold bit; simp
    rw [key]
    by_cases e : v = n
    · subst e
      rw [bitsN_s]
      by_cases hf : f v = true
      · rw [if_pos hf, if_pos hf, Nat.add_div_right _ (Nat.pow_pos (by decide)), Nat.div_eq_of_lt hb]
        rfl
      · rw [if_neg hf, if_neg hf, Nat.add_zero, Nat.div_eq_of_lt hb]
        rfl
    · have ih := bitsN_bit (f := f) (v := v) n (by omega)
      have key2 : bit ((bitsN f n : Nat) : Int) v = ((bitsN f n / 2 ^ v % 2 : Nat) : Int) := by
        unfold bit; simp
      rw [key2] at ih
      rw [← ih]
      rw [bitsN_s]
      by_cases hf : f n = true
      · rw [if_pos hf]
        obtain ⟨j, rfl⟩ : ∃ j, n = v + 1 + j := ⟨n - v - 1, by omega⟩
        have e1 : 2 ^ (v + 1 + j) = 2 ^ v * (2 * 2 ^ j) := by rw [Nat.pow_add, Nat.pow_succ, Nat.mul_assoc]
        rw [e1, Nat.add_mul_div_left _ _ (Nat.pow_pos (by decide))]
        congr 1
        omega
      · rw [if_neg hf, Nat.add_zero]
def truB (C : Ct) (w : Sk) (p : Nat) (v : Nat) : Bool := decide (thnP C (actW w p (v : Int)) p = (v : Int))
def slfV (C : Ct) (w : Sk) (a : Int) : Int := if 0 ≤ a ∧ a < C.1 then ((bitsN (truB C w a.toNat) 21 : Nat) : Int) else -1
theorem actW_actW {w : Sk} {p : Nat} {u v : Int} : actW (actW w p u) p v = actW w p v := by
  unfold actW
  have : (fun j => if j = p then v else if j = p then u else w.2.2.2.2 j) = (fun j => if j = p then v else w.2.2.2.2 j) := by
    funext j
    by_cases e : j = p
    · rw [if_pos e, if_pos e]
    · rw [if_neg e, if_neg e, if_neg e]
  simp only [this]
section
variable {d : Nat} {σ : mM} {K : Option mV → mM → Prop} {C : Ct} {w : Sk} {l : Kp}
theorem x_trueNumbers {p : Nat} (hF : Fix σ) (hC : CtV C) (hp : p < C.1) (hcx : CtX σ C) (hw : SkV C w) (hsx : SkX σ 28 C w) (hK : ∀ σ', Fr xrL xrT σ σ' → K (some (.inl ((bitsN (truB C w p) 21 : Nat) : Int))) σ') : Mt (d + 5) 19 [.inr (.inr 33), .inl (p : Int)] σ K := by
  refine Mt.go (lv := [some (.inr (.inr 33)), some (.inl (p : Int)), none, none]) rfl rfl rfl ?_
  have n7 := hC.1
  refine At.blk rfl rfl rfl fun sx => ?_
  simp (decide := true) only [RR, ms_app, toList_some, toList_none, if_true, if_false, true_and, and_true, cond_true, sm0, sm1, sm1l, sm2, lc_lt, lc_gt, lc_eq, Int.toNat_natCast, Int.reduceToNat, Nat.reduceAdd, Nat.reduceEqDiff, Int.reduceLT, Int.reduceEq, Int.reduceNeg, Int.reduceAdd, Int.reduceMul, Nat.reduceMul, ms_n, ms_i, ms_l, ms_p, PX, fxX hF]
  refine cal_of rfl (x_skyCopy hF rfl rfl (by omega) ?_)
  simp (decide := true) only [RR, ms_app, toList_some, toList_none, if_true, if_false, true_and, and_true, cond_true, sm0, sm1, sm1l, sm2, lc_lt, lc_gt, lc_eq, Int.toNat_natCast, Int.reduceToNat, Nat.reduceAdd, Nat.reduceEqDiff, Int.reduceLT, Int.reduceEq, Int.reduceNeg, Int.reduceAdd, Int.reduceMul, Nat.reduceMul, ms_n, ms_i, ms_l, ms_p, PX]
  have loop : ∀ m k : Nat, 21 - k = m → k ≤ 21 → ∀ σ', Fr xrL xrT σ σ' → (∃ u, SkX σ' 34 C u ∧ ∀ v, actW u p v = actW w p v) → At (d + 4) 19 1 [some (.inr (.inr 33)), some (.inl (p : Int)), some (.inl ((bitsN (truB C w p) k : Nat) : Int)), some (.inl (k : Int))] [] σ' K := by
    intro m
    induction m with
    | zero =>
      intro k hk hk2 σ' fr s
      obtain rfl : k = 21 := by omega
      refine At.blk rfl rfl rfl fun sx => ?_
      simp (decide := true) only [RR, ms_app, toList_some, toList_none, if_true, if_false, true_and, and_true, cond_true, sm0, sm1, sm1l, sm2, lc_lt, lc_gt, lc_eq, Int.toNat_natCast, Int.reduceToNat, Nat.reduceAdd, Nat.reduceEqDiff, Int.reduceLT, Int.reduceEq, Int.reduceNeg, Int.reduceAdd, Int.reduceMul, Nat.reduceMul, ms_n, ms_i, ms_l, ms_p, PX]
      refine At.blk rfl rfl rfl fun sx => ?_
      simp (decide := true) only [RR, ms_app, toList_some, toList_none, if_true, if_false, true_and, and_true, cond_true, sm0, sm1, sm1l, sm2, lc_lt, lc_gt, lc_eq, Int.toNat_natCast, Int.reduceToNat, Nat.reduceAdd, Nat.reduceEqDiff, Int.reduceLT, Int.reduceEq, Int.reduceNeg, Int.reduceAdd, Int.reduceMul, Nat.reduceMul, ms_n, ms_i, ms_l, ms_p, PX]
      exact hK σ' fr
    | succ m ih =>
      intro k hk hk2 σ' fr s
      obtain ⟨u, s1, s2⟩ := s
      have hF' := hF.fr fr rfl
      have w1 : Unit → w32 ((k : Int) + 1) = ((k + 1 : Nat) : Int) := fun _ => by rw [w32_small (by omega) (by omega)]; omega
      have s3 : SkX (mj_set σ' 36 p (k : Int)) 34 C (actW w p (k : Int)) := by
        rw [← s2]; exact s1.act34 (Or.inl (by omega))
      have hF1 : Fix (mj_set σ' 36 p (k : Int)) := hF'.set rfl
      have f1 : Fr xrL xrT σ (mj_set σ' 36 p (k : Int)) := fr.setr rfl
      refine At.blk rfl rfl rfl fun sx => ?_
      simp (decide := true) only [RR, ms_app, toList_some, toList_none, if_true, if_false, true_and, and_true, cond_true, sm0, sm1, sm1l, sm2, lc_lt, lc_gt, lc_eq, Int.toNat_natCast, Int.reduceToNat, Nat.reduceAdd, Nat.reduceEqDiff, Int.reduceLT, Int.reduceEq, Int.reduceNeg, Int.reduceAdd, Int.reduceMul, Nat.reduceMul, ms_n, ms_i, ms_l, ms_p, PX, fxX hF']
      rw [if_neg (by omega)]
      refine ⟨⟨by omega, by omega⟩, ?_⟩
      refine cal_of rfl (x_foresee34 hF1 hC (actW_V hw (by omega)) (hcx.xr f1) s3 (fun σ2 f2 hE h2 => ?_))
      have hF2 := hF1.fr f2 rfl
      have e27 := (h2 p hp).2.2
      have F2 : Fr xrL xrT σ σ2 := f1.trans (f2.mono rfl)
      simp (decide := true) only [RR, ms_app, toList_some, toList_none, if_true, if_false, true_and, and_true, cond_true, sm0, sm1, sm1l, sm2, lc_lt, lc_gt, lc_eq, Int.toNat_natCast, Int.reduceToNat, Nat.reduceAdd, Nat.reduceEqDiff, Int.reduceLT, Int.reduceEq, Int.reduceNeg, Int.reduceAdd, Int.reduceMul, Nat.reduceMul, ms_n, ms_i, ms_l, ms_p, PX, fxX hF2, e27]
      refine ⟨⟨by omega, by omega⟩, ?_⟩
      have nx : ∃ u, SkX σ2 34 C u ∧ ∀ v, actW u p v = actW w p v := ⟨_, s3.xw34 f2, fun v => actW_actW⟩
      by_cases g : thnP C (actW w p (k : Int)) p = (k : Int)
      · rw [if_pos g]
        have ht : truB C w p k = true := by unfold truB; exact decide_eq_true g
        rw [bitsN_or (by omega) ht]
        refine At.blk rfl rfl rfl fun sx => ?_
        simp (decide := true) only [RR, ms_app, toList_some, toList_none, if_true, if_false, true_and, and_true, cond_true, sm0, sm1, sm1l, sm2, lc_lt, lc_gt, lc_eq, Int.toNat_natCast, Int.reduceToNat, Nat.reduceAdd, Nat.reduceEqDiff, Int.reduceLT, Int.reduceEq, Int.reduceNeg, Int.reduceAdd, Int.reduceMul, Nat.reduceMul, ms_n, ms_i, ms_l, ms_p, PX, w1 ()]
        exact ih (k + 1) (by omega) (by omega) σ2 F2 nx
      · rw [if_neg g]
        have ht : truB C w p k = false := by unfold truB; exact decide_eq_false g
        rw [← bitsN_no ht]
        refine At.blk rfl rfl rfl fun sx => ?_
        simp (decide := true) only [RR, ms_app, toList_some, toList_none, if_true, if_false, true_and, and_true, cond_true, sm0, sm1, sm1l, sm2, lc_lt, lc_gt, lc_eq, Int.toNat_natCast, Int.reduceToNat, Nat.reduceAdd, Nat.reduceEqDiff, Int.reduceLT, Int.reduceEq, Int.reduceNeg, Int.reduceAdd, Int.reduceMul, Nat.reduceMul, ms_n, ms_i, ms_l, ms_p, PX, w1 ()]
        exact ih (k + 1) (by omega) (by omega) σ2 F2 nx
  exact loop 21 0 rfl (by omega) _ (Fr.copy.mono rfl) ⟨w, hsx.copy n7, fun _ => rfl⟩
theorem x_self {a : Int} (hF : Fix σ) (hW : Wrl σ C w l) (hK : ∀ σ', Fr xrL xrT σ σ' → K (some (.inl (slfV C w a))) σ') : Mt (d + 6) 117 [.inr (.inr 0), .inl a] σ K := by
  refine Mt.go (lv := [some (.inr (.inr 0)), some (.inl a)]) rfl rfl rfl ?_
  obtain ⟨hC, hcx, hcm, hw, hsx, hsm, hkx, hkm, hkv, h9⟩ := hW
  unfold slfV at hK
  refine At.blk rfl rfl rfl fun sx => ?_
  simp (decide := true) only [RR, ms_app, toList_some, toList_none, if_true, if_false, true_and, and_true, cond_true, sm0, sm1, sm1l, sm2, lc_lt, lc_gt, lc_eq, Int.toNat_natCast, Int.reduceToNat, Nat.reduceAdd, Nat.reduceEqDiff, Int.reduceLT, Int.reduceEq, Int.reduceNeg, Int.reduceAdd, Int.reduceMul, Nat.reduceMul, ms_n, ms_i, ms_l, ms_p, PX, fxX hF]
  refine cal_of rfl (x_holds3 (fun hh => ?_) (fun hh => ?_))
  · rw [hcx.1] at hh
    obtain ⟨p, rfl⟩ := Int.eq_ofNat_of_zero_le hh.1
    rw [if_pos hh, Int.toNat_natCast] at hK
    simp (decide := true) only [RR, ms_app, toList_some, toList_none, if_true, if_false, true_and, and_true, cond_true, sm0, sm1, sm1l, sm2, lc_lt, lc_gt, lc_eq, Int.toNat_natCast, Int.reduceToNat, Nat.reduceAdd, Nat.reduceEqDiff, Int.reduceLT, Int.reduceEq, Int.reduceNeg, Int.reduceAdd, Int.reduceMul, Nat.reduceMul, ms_n, ms_i, ms_l, ms_p, PX, fxX hF]
    refine cal_of rfl (x_trueNumbers hF hC (by omega) hcx hw hsx (fun σ1 f1 => ?_))
    simp (decide := true) only [RR, ms_app, toList_some, toList_none, if_true, if_false, true_and, and_true, cond_true, sm0, sm1, sm1l, sm2, lc_lt, lc_gt, lc_eq, Int.toNat_natCast, Int.reduceToNat, Nat.reduceAdd, Nat.reduceEqDiff, Int.reduceLT, Int.reduceEq, Int.reduceNeg, Int.reduceAdd, Int.reduceMul, Nat.reduceMul, ms_n, ms_i, ms_l, ms_p, PX]
    refine At.blk rfl rfl rfl fun sx => ?_
    simp (decide := true) only [RR, ms_app, toList_some, toList_none, if_true, if_false, true_and, and_true, cond_true, sm0, sm1, sm1l, sm2, lc_lt, lc_gt, lc_eq, Int.toNat_natCast, Int.reduceToNat, Nat.reduceAdd, Nat.reduceEqDiff, Int.reduceLT, Int.reduceEq, Int.reduceNeg, Int.reduceAdd, Int.reduceMul, Nat.reduceMul, ms_n, ms_i, ms_l, ms_p, PX]
    exact hK σ1 f1
  · rw [hcx.1] at hh
    rw [if_neg hh] at hK
    simp (decide := true) only [RR, ms_app, toList_some, toList_none, if_true, if_false, true_and, and_true, cond_true, sm0, sm1, sm1l, sm2, lc_lt, lc_gt, lc_eq, Int.toNat_natCast, Int.reduceToNat, Nat.reduceAdd, Nat.reduceEqDiff, Int.reduceLT, Int.reduceEq, Int.reduceNeg, Int.reduceAdd, Int.reduceMul, Nat.reduceMul, ms_n, ms_i, ms_l, ms_p, PX]
    refine At.blk rfl rfl rfl fun sx => ?_
    simp (decide := true) only [RR, ms_app, toList_some, toList_none, if_true, if_false, true_and, and_true, cond_true, sm0, sm1, sm1l, sm2, lc_lt, lc_gt, lc_eq, Int.toNat_natCast, Int.reduceToNat, Nat.reduceAdd, Nat.reduceEqDiff, Int.reduceLT, Int.reduceEq, Int.reduceNeg, Int.reduceAdd, Int.reduceMul, Nat.reduceMul, ms_n, ms_i, ms_l, ms_p, PX]
    refine At.blk rfl rfl rfl fun sx => ?_
    simp (decide := true) only [RR, ms_app, toList_some, toList_none, if_true, if_false, true_and, and_true, cond_true, sm0, sm1, sm1l, sm2, lc_lt, lc_gt, lc_eq, Int.toNat_natCast, Int.reduceToNat, Nat.reduceAdd, Nat.reduceEqDiff, Int.reduceLT, Int.reduceEq, Int.reduceNeg, Int.reduceAdd, Int.reduceMul, Nat.reduceMul, ms_n, ms_i, ms_l, ms_p, PX]
    exact hK σ Fr.same
theorem m_isTrue {p v : Nat} (hF : Fix σ) (hC : CtV C) (hp : p < C.1) (hv : v ≤ 20) (hcm : CtM σ C) (hw : SkV C w) (hsm : SkM σ C w) (hK : ∀ σ', Fr mwL mwT σ σ' → K (some (.inl (if truB C w p v = true then 1 else 0))) σ') : Mt (d + 9) 210 [.inr (.inr 146), .inl (p : Int), .inl (v : Int)] σ K := by
  refine Mt.go (lv := [some (.inr (.inr 146)), some (.inl (p : Int)), some (.inl (v : Int)), none]) rfl rfl rfl ?_
  have n7 := hC.1
  have i1 : Unit → w32 (4 * (p : Int)) = ((4 * p : Nat) : Int) := fun _ => by rw [w32_small (by omega) (by omega)]; omega
  have i2 : Unit → w32 (4 + ((4 * p : Nat) : Int)) = ((4 + 4 * p : Nat) : Int) := fun _ => by rw [w32_small (by omega) (by omega)]; omega
  have hF1 : Fix (mj_set σ 182 (4 + 4 * p) (v : Int)) := hF.set rfl
  refine At.blk rfl rfl rfl fun sx => ?_
  simp (decide := true) only [RR, ms_app, toList_some, toList_none, if_true, if_false, true_and, and_true, cond_true, sm0, sm1, sm1l, sm2, lc_lt, lc_gt, lc_eq, Int.toNat_natCast, Int.reduceToNat, Nat.reduceAdd, Nat.reduceEqDiff, Int.reduceLT, Int.reduceEq, Int.reduceNeg, Int.reduceAdd, Int.reduceMul, Nat.reduceMul, ms_n, ms_i, ms_l, ms_p, PM, fxM hF, i1 (), i2 ()]
  refine ⟨⟨by omega, by omega⟩, ⟨by omega, by omega⟩, ?_⟩
  refine cal_of rfl (m_laysNight hF1 hC (actW_V hw (by omega)) (hcm.cg rfl rfl rfl rfl rfl rfl) hsm.act (fun σ2 f2 h2 h3 => ?_))
  have hF2 := hF1.fr f2 rfl
  have e87 := h3 p hp
  have F2 : Fr mwL mwT σ (mj_set σ2 182 (4 + 4 * p) (σ 182 (4 + 4 * p))) := by
    intro q k hn
    rw [ms_app]
    by_cases c1 : q = 182
    · rw [if_pos c1]
      by_cases c2 : k = 4 + 4 * p
      · rw [if_pos c2, c1, c2]
      · rw [if_neg c2, f2 q k hn, c1, ms_app, if_pos rfl, if_neg c2]
    · rw [if_neg c1, f2 q k hn, ms_row c1]
  simp (decide := true) only [RR, ms_app, toList_some, toList_none, if_true, if_false, true_and, and_true, cond_true, sm0, sm1, sm1l, sm2, lc_lt, lc_gt, lc_eq, Int.toNat_natCast, Int.reduceToNat, Nat.reduceAdd, Nat.reduceEqDiff, Int.reduceLT, Int.reduceEq, Int.reduceNeg, Int.reduceAdd, Int.reduceMul, Nat.reduceMul, ms_n, ms_i, ms_l, ms_p, PM, fxM hF2, i1 (), i2 (), e87]
  refine ⟨⟨by omega, by omega⟩, ⟨by omega, by omega⟩, ?_⟩
  have hK := hK _ F2
  unfold truB at hK
  by_cases g : thnP C (actW w p (v : Int)) p = (v : Int)
  · rw [if_pos g]
    rw [if_pos (decide_eq_true g)] at hK
    refine At.blk rfl rfl rfl fun sx => ?_
    simp (decide := true) only [RR, ms_app, toList_some, toList_none, if_true, if_false, true_and, and_true, cond_true, sm0, sm1, sm1l, sm2, lc_lt, lc_gt, lc_eq, Int.toNat_natCast, Int.reduceToNat, Nat.reduceAdd, Nat.reduceEqDiff, Int.reduceLT, Int.reduceEq, Int.reduceNeg, Int.reduceAdd, Int.reduceMul, Nat.reduceMul, ms_n, ms_i, ms_l, ms_p, PM]
    exact hK
  · rw [if_neg g]
    rw [if_neg (by rw [decide_eq_false g]; decide)] at hK
    refine At.blk rfl rfl rfl fun sx => ?_
    simp (decide := true) only [RR, ms_app, toList_some, toList_none, if_true, if_false, true_and, and_true, cond_true, sm0, sm1, sm1l, sm2, lc_lt, lc_gt, lc_eq, Int.toNat_natCast, Int.reduceToNat, Nat.reduceAdd, Nat.reduceEqDiff, Int.reduceLT, Int.reduceEq, Int.reduceNeg, Int.reduceAdd, Int.reduceMul, Nat.reduceMul, ms_n, ms_i, ms_l, ms_p, PM]
    refine At.blk rfl rfl rfl fun sx => ?_
    simp (decide := true) only [RR, ms_app, toList_some, toList_none, if_true, if_false, true_and, and_true, cond_true, sm0, sm1, sm1l, sm2, lc_lt, lc_gt, lc_eq, Int.toNat_natCast, Int.reduceToNat, Nat.reduceAdd, Nat.reduceEqDiff, Int.reduceLT, Int.reduceEq, Int.reduceNeg, Int.reduceAdd, Int.reduceMul, Nat.reduceMul, ms_n, ms_i, ms_l, ms_p, PM]
    exact hK
theorem m_self {a : Int} (hF : Fix σ) (hW : Wrl σ C w l) (hK : ∀ σ', Fr mrL mrT σ σ' → K (some (.inl (slfV C w a))) σ') : Mt (d + 10) 211 [.inr (.inr 146), .inl a] σ K := by
  refine Mt.go (lv := [some (.inr (.inr 146)), some (.inl a), none, none]) rfl rfl rfl ?_
  obtain ⟨hC, hcx, hcm, hw, hsx, hsm, hkx, hkm, hkv, h9⟩ := hW
  have n7 := hC.1
  unfold slfV at hK
  refine At.blk rfl rfl rfl fun sx => ?_
  simp (decide := true) only [RR, ms_app, toList_some, toList_none, if_true, if_false, true_and, and_true, cond_true, sm0, sm1, sm1l, sm2, lc_lt, lc_gt, lc_eq, Int.toNat_natCast, Int.reduceToNat, Nat.reduceAdd, Nat.reduceEqDiff, Int.reduceLT, Int.reduceEq, Int.reduceNeg, Int.reduceAdd, Int.reduceMul, Nat.reduceMul, ms_n, ms_i, ms_l, ms_p, PM, fxM hF]
  refine cal_of rfl (m_isPart hF (by rw [hcm.1]; omega) (fun hh => ?_) (fun hh => ?_))
  · rw [hcm.1] at hh
    obtain ⟨p, rfl⟩ := Int.eq_ofNat_of_zero_le hh.1
    have hp : p < C.1 := by omega
    rw [if_pos hh, Int.toNat_natCast] at hK
    simp (decide := true) only [RR, ms_app, toList_some, toList_none, if_true, if_false, true_and, and_true, cond_true, sm0, sm1, sm1l, sm2, lc_lt, lc_gt, lc_eq, Int.toNat_natCast, Int.reduceToNat, Nat.reduceAdd, Nat.reduceEqDiff, Int.reduceLT, Int.reduceEq, Int.reduceNeg, Int.reduceAdd, Int.reduceMul, Nat.reduceMul, ms_n, ms_i, ms_l, ms_p, PM]
    refine At.blk rfl rfl rfl fun sx => ?_
    simp (decide := true) only [RR, ms_app, toList_some, toList_none, if_true, if_false, true_and, and_true, cond_true, sm0, sm1, sm1l, sm2, lc_lt, lc_gt, lc_eq, Int.toNat_natCast, Int.reduceToNat, Nat.reduceAdd, Nat.reduceEqDiff, Int.reduceLT, Int.reduceEq, Int.reduceNeg, Int.reduceAdd, Int.reduceMul, Nat.reduceMul, ms_n, ms_i, ms_l, ms_p, PM]
    have loop : ∀ m k : Nat, 21 - k = m → k ≤ 21 → ∀ σ', Fr mwL mwT σ σ' → At (d + 9) 211 2 [some (.inr (.inr 146)), some (.inl (p : Int)), some (.inl ((bitsN (truB C w p) k : Nat) : Int)), some (.inl (k : Int))] [] σ' K := by
      intro m
      induction m with
      | zero =>
        intro k hk hk2 σ' fr
        obtain rfl : k = 21 := by omega
        refine At.blk rfl rfl rfl fun sx => ?_
        simp (decide := true) only [RR, ms_app, toList_some, toList_none, if_true, if_false, true_and, and_true, cond_true, sm0, sm1, sm1l, sm2, lc_lt, lc_gt, lc_eq, Int.toNat_natCast, Int.reduceToNat, Nat.reduceAdd, Nat.reduceEqDiff, Int.reduceLT, Int.reduceEq, Int.reduceNeg, Int.reduceAdd, Int.reduceMul, Nat.reduceMul, ms_n, ms_i, ms_l, ms_p, PM]
        refine At.blk rfl rfl rfl fun sx => ?_
        simp (decide := true) only [RR, ms_app, toList_some, toList_none, if_true, if_false, true_and, and_true, cond_true, sm0, sm1, sm1l, sm2, lc_lt, lc_gt, lc_eq, Int.toNat_natCast, Int.reduceToNat, Nat.reduceAdd, Nat.reduceEqDiff, Int.reduceLT, Int.reduceEq, Int.reduceNeg, Int.reduceAdd, Int.reduceMul, Nat.reduceMul, ms_n, ms_i, ms_l, ms_p, PM]
        exact hK σ' (fr.mono rfl)
      | succ m ih =>
        intro k hk hk2 σ' fr
        have hF' := hF.fr fr rfl
        have w1 : Unit → w32 ((k : Int) + 1) = ((k + 1 : Nat) : Int) := fun _ => by rw [w32_small (by omega) (by omega)]; omega
        refine At.blk rfl rfl rfl fun sx => ?_
        simp (decide := true) only [RR, ms_app, toList_some, toList_none, if_true, if_false, true_and, and_true, cond_true, sm0, sm1, sm1l, sm2, lc_lt, lc_gt, lc_eq, Int.toNat_natCast, Int.reduceToNat, Nat.reduceAdd, Nat.reduceEqDiff, Int.reduceLT, Int.reduceEq, Int.reduceNeg, Int.reduceAdd, Int.reduceMul, Nat.reduceMul, ms_n, ms_i, ms_l, ms_p, PM]
        rw [if_neg (by omega)]
        refine cal_of rfl (m_isTrue hF' hC hp (by omega) (hcm.mw fr) hw (hsm.mw n7 fr) (fun σ2 f2 => ?_))
        by_cases ht : truB C w p k = true
        · rw [if_pos ht]
          simp (decide := true) only [RR, ms_app, toList_some, toList_none, if_true, if_false, true_and, and_true, cond_true, sm0, sm1, sm1l, sm2, lc_lt, lc_gt, lc_eq, Int.toNat_natCast, Int.reduceToNat, Nat.reduceAdd, Nat.reduceEqDiff, Int.reduceLT, Int.reduceEq, Int.reduceNeg, Int.reduceAdd, Int.reduceMul, Nat.reduceMul, ms_n, ms_i, ms_l, ms_p, PM]
          rw [bitsN_or (by omega) ht]
          refine At.blk rfl rfl rfl fun sx => ?_
          simp (decide := true) only [RR, ms_app, toList_some, toList_none, if_true, if_false, true_and, and_true, cond_true, sm0, sm1, sm1l, sm2, lc_lt, lc_gt, lc_eq, Int.toNat_natCast, Int.reduceToNat, Nat.reduceAdd, Nat.reduceEqDiff, Int.reduceLT, Int.reduceEq, Int.reduceNeg, Int.reduceAdd, Int.reduceMul, Nat.reduceMul, ms_n, ms_i, ms_l, ms_p, PM, w1 ()]
          exact ih (k + 1) (by omega) (by omega) σ2 (fr.trans f2)
        · rw [if_neg ht]
          simp (decide := true) only [RR, ms_app, toList_some, toList_none, if_true, if_false, true_and, and_true, cond_true, sm0, sm1, sm1l, sm2, lc_lt, lc_gt, lc_eq, Int.toNat_natCast, Int.reduceToNat, Nat.reduceAdd, Nat.reduceEqDiff, Int.reduceLT, Int.reduceEq, Int.reduceNeg, Int.reduceAdd, Int.reduceMul, Nat.reduceMul, ms_n, ms_i, ms_l, ms_p, PM]
          rw [← bitsN_no (by simpa using ht)]
          refine At.blk rfl rfl rfl fun sx => ?_
          simp (decide := true) only [RR, ms_app, toList_some, toList_none, if_true, if_false, true_and, and_true, cond_true, sm0, sm1, sm1l, sm2, lc_lt, lc_gt, lc_eq, Int.toNat_natCast, Int.reduceToNat, Nat.reduceAdd, Nat.reduceEqDiff, Int.reduceLT, Int.reduceEq, Int.reduceNeg, Int.reduceAdd, Int.reduceMul, Nat.reduceMul, ms_n, ms_i, ms_l, ms_p, PM, w1 ()]
          exact ih (k + 1) (by omega) (by omega) σ2 (fr.trans f2)
    exact loop 21 0 rfl (by omega) σ Fr.same
  · rw [hcm.1] at hh
    rw [if_neg hh] at hK
    simp (decide := true) only [RR, ms_app, toList_some, toList_none, if_true, if_false, true_and, and_true, cond_true, sm0, sm1, sm1l, sm2, lc_lt, lc_gt, lc_eq, Int.toNat_natCast, Int.reduceToNat, Nat.reduceAdd, Nat.reduceEqDiff, Int.reduceLT, Int.reduceEq, Int.reduceNeg, Int.reduceAdd, Int.reduceMul, Nat.reduceMul, ms_n, ms_i, ms_l, ms_p, PM]
    exact hK σ Fr.same
end
theorem p_self {σ : mM} (h : Inv σ) (a : Int) (_ : inR a) : PairI Inv 117 211 [.inl a] σ := by
  obtain ⟨C, w, l, hW⟩ := h.wrl
  exact ro_pair (v := slfV C w a) h hW (x_self h.1 hW (fun σ' f => ⟨rfl, f.mono rfl⟩)) (fun σ1 h1 hW1 _ => m_self h1.1 hW1 (fun σ' f => ⟨rfl, f.mono rfl⟩))
