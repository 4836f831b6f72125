def axL : List Nat := [16, 17, 18, 22, 23, 24, 25, 26, 27]
def axT : List (Nat × Nat) := [(20, 1), (20, 2), (20, 3), (20, 4), (20, 5), (19, 2), (19, 3), (19, 4), (19, 5), (15, 3), (21, 4), (1, 1)]
section
variable {d : Nat} {σ : mM} {K : Option mV → mM → Prop} {N : Nat} {t : Nat → Int} {C : Ct} {w : Sk}
theorem x_ask (hF : Fix σ) (hC : CtV C) (hw : SkV C w) (hcx : CtX σ C) (hs : SkX σ 28 C w) (hT : TxX σ N t) (h1 : ∀ σ' j cs e s0 s1 g', Fr axL axT σ σ' → QuOk N t j cs e s0 s1 g' → σ' 1 1 = 0 → σ' 19 2 = 0 → σ' 19 3 = -1 → K (some (.inr (.inl (ansN (j : Int) (qV C w cs) C.1)))) σ') (h0 : ∀ σ' k p, Fr axL axT σ σ' → QuNo N t k p → k ≠ 0 → σ' 1 1 = 0 → σ' 19 2 = k → σ' 19 3 = p → K (some (.inr (.inl (-1000000000000000)))) σ') : Mt (d + 44) 133 [.inr (.inr 0)] σ K := by
  refine Mt.go (lv := [some (.inr (.inr 0)), none]) rfl rfl rfl ?_
  refine At.blk rfl rfl rfl fun sx => ?_
  simp (decide := true) only [RR, ms_app, toList_some, toList_none, if_true, if_false, true_and, and_true, cond_true, sm0, sm1, sm1l, sm2, lc_lt, lc_gt, lc_eq, Int.toNat_natCast, Int.reduceToNat, Nat.reduceAdd, Nat.reduceEqDiff, Int.reduceLT, Int.reduceEq, Int.reduceNeg, Int.reduceAdd, Int.reduceMul, Nat.reduceMul, ms_n, ms_i, ms_l, ms_p, PX, fxX hF]
  refine cal_of rfl (x_parseQuestion hF hT (fun σ1 j cs e s0 s1 g' f1 hq e2 e3 e4 e17 e18 hst => ?_) (fun σ1 k p f1 hq hk e2 e3 => ?_))
  · have F1 : Fr axL axT σ (mj_set σ1 1 1 0) := (f1.mono rfl).set rfl
    have hF1 := hF.fr f1 rfl
    have hFb := hF.fr F1 rfl
    have hc1 : CtX (mj_set σ1 1 1 0) C := hcx.cg (F1.row 3 rfl) (F1.row 6 rfl) (F1.row 8 rfl) (F1.row 9 rfl) (F1.row 10 rfl)
    have hs1 : SkX (mj_set σ1 1 1 0) 28 C w := hs.cg (F1.row 28 rfl) (F1.row 29 rfl) (F1.row 30 rfl)
    have hj := hq.1
    simp (decide := true) only [RR, ms_app, toList_some, toList_none, if_true, if_false, true_and, and_true, cond_true, sm0, sm1, sm1l, sm2, lc_lt, lc_gt, lc_eq, Int.toNat_natCast, Int.reduceToNat, Nat.reduceAdd, Nat.reduceEqDiff, Int.reduceLT, Int.reduceEq, Int.reduceNeg, Int.reduceAdd, Int.reduceMul, Nat.reduceMul, ms_n, ms_i, ms_l, ms_p, PX, fxX hF1]
    refine At.blk rfl rfl rfl fun sx => ?_
    simp (decide := true) only [RR, ms_app, toList_some, toList_none, if_true, if_false, true_and, and_true, cond_true, sm0, sm1, sm1l, sm2, lc_lt, lc_gt, lc_eq, Int.toNat_natCast, Int.reduceToNat, Nat.reduceAdd, Nat.reduceEqDiff, Int.reduceLT, Int.reduceEq, Int.reduceNeg, Int.reduceAdd, Int.reduceMul, Nat.reduceMul, ms_n, ms_i, ms_l, ms_p, PX, fxX hF1]
    refine cal_of rfl (x_foresee28 hFb hC hw hc1 hs1 (fun σ2 f2 hE h6 => ?_))
    have F2 : Fr axL axT σ σ2 := F1.trans (f2.mono rfl)
    have hF2 := hF.fr F2 rfl
    have hc2 : CtX σ2 C := hcx.cg (F2.row 3 rfl) (F2.row 6 rfl) (F2.row 8 rfl) (F2.row 9 rfl) (F2.row 10 rfl)
    have hs2 : SkX σ2 28 C w := hs.cg (F2.row 28 rfl) (F2.row 29 rfl) (F2.row 30 rfl)
    have b1 : σ2 1 1 = 0 := f2 1 1 rfl
    have b2 : σ2 19 2 = 0 := (f2 19 2 rfl).trans e2
    have b3 : σ2 19 3 = -1 := (f2 19 3 rfl).trans e3
    have b4 : σ2 19 4 = (kdW j : Int) := (f2 19 4 rfl).trans e4
    have hR : RlX σ2 16 17 18 3 cs := ⟨0, (f2 17 3 rfl).trans e17, by rw [Nat.zero_add]; exact (f2 18 3 rfl).trans e18, by have := hq.2.2.2.2.1; omega, fun i h => by rw [Nat.zero_add, f2.row 16 rfl]; exact hst i h⟩
    simp (decide := true) only [RR, ms_app, toList_some, toList_none, if_true, if_false, true_and, and_true, cond_true, sm0, sm1, sm1l, sm2, lc_lt, lc_gt, lc_eq, Int.toNat_natCast, Int.reduceToNat, Nat.reduceAdd, Nat.reduceEqDiff, Int.reduceLT, Int.reduceEq, Int.reduceNeg, Int.reduceAdd, Int.reduceMul, Nat.reduceMul, ms_n, ms_i, ms_l, ms_p, PX, fxX hF2]
    refine cal_of rfl (x_asks b4 ?_)
    by_cases c : j < 3
    · rw [if_pos (kd_test j c)]
      simp (decide := true) only [RR, ms_app, toList_some, toList_none, if_true, if_false, true_and, and_true, cond_true, sm0, sm1, sm1l, sm2, lc_lt, lc_gt, lc_eq, Int.toNat_natCast, Int.reduceToNat, Nat.reduceAdd, Nat.reduceEqDiff, Int.reduceLT, Int.reduceEq, Int.reduceNeg, Int.reduceAdd, Int.reduceMul, Nat.reduceMul, ms_n, ms_i, ms_l, ms_p, PX]
      refine cal_of rfl (x_answerTest (C := C) (w := w) c hF2 hC hw hc2 hs2 hE (fun p hp => (h6 p hp).2.1) hR ((hq.2.2.2.2.2.1 c).1 [] (by decide)) b4 (fun σ3 f3 => ?_))
      simp (decide := true) only [RR, ms_app, toList_some, toList_none, if_true, if_false, true_and, and_true, cond_true, sm0, sm1, sm1l, sm2, lc_lt, lc_gt, lc_eq, Int.toNat_natCast, Int.reduceToNat, Nat.reduceAdd, Nat.reduceEqDiff, Int.reduceLT, Int.reduceEq, Int.reduceNeg, Int.reduceAdd, Int.reduceMul, Nat.reduceMul, ms_n, ms_i, ms_l, ms_p, PX]
      refine At.blk rfl rfl rfl fun sx => ?_
      simp (decide := true) only [RR, ms_app, toList_some, toList_none, if_true, if_false, true_and, and_true, cond_true, sm0, sm1, sm1l, sm2, lc_lt, lc_gt, lc_eq, Int.toNat_natCast, Int.reduceToNat, Nat.reduceAdd, Nat.reduceEqDiff, Int.reduceLT, Int.reduceEq, Int.reduceNeg, Int.reduceAdd, Int.reduceMul, Nat.reduceMul, ms_n, ms_i, ms_l, ms_p, PX]
      exact h1 σ3 j cs e s0 s1 g' (F2.trans (f3.mono rfl)) hq ((f3 1 1 rfl).trans b1) ((f3 19 2 rfl).trans b2) ((f3 19 3 rfl).trans b3)
    · rw [if_neg (kd_sum j hj c).1]
      simp (decide := true) only [RR, ms_app, toList_some, toList_none, if_true, if_false, true_and, and_true, cond_true, sm0, sm1, sm1l, sm2, lc_lt, lc_gt, lc_eq, Int.toNat_natCast, Int.reduceToNat, Nat.reduceAdd, Nat.reduceEqDiff, Int.reduceLT, Int.reduceEq, Int.reduceNeg, Int.reduceAdd, Int.reduceMul, Nat.reduceMul, ms_n, ms_i, ms_l, ms_p, PX]
      refine At.blk rfl rfl rfl fun sx => ?_
      simp (decide := true) only [RR, ms_app, toList_some, toList_none, if_true, if_false, true_and, and_true, cond_true, sm0, sm1, sm1l, sm2, lc_lt, lc_gt, lc_eq, Int.toNat_natCast, Int.reduceToNat, Nat.reduceAdd, Nat.reduceEqDiff, Int.reduceLT, Int.reduceEq, Int.reduceNeg, Int.reduceAdd, Int.reduceMul, Nat.reduceMul, ms_n, ms_i, ms_l, ms_p, PX]
      refine cal_of rfl (x_answerSum (C := C) (w := w) ⟨by omega, hj⟩ hF2 hC hw hc2 hs2 hE (fun p hp => (h6 p hp).2.1) hR ((hq.2.2.2.2.2.2 c).1 [] (by decide)) b4 (fun σ3 f3 => ?_))
      simp (decide := true) only [RR, ms_app, toList_some, toList_none, if_true, if_false, true_and, and_true, cond_true, sm0, sm1, sm1l, sm2, lc_lt, lc_gt, lc_eq, Int.toNat_natCast, Int.reduceToNat, Nat.reduceAdd, Nat.reduceEqDiff, Int.reduceLT, Int.reduceEq, Int.reduceNeg, Int.reduceAdd, Int.reduceMul, Nat.reduceMul, ms_n, ms_i, ms_l, ms_p, PX]
      refine At.blk rfl rfl rfl fun sx => ?_
      simp (decide := true) only [RR, ms_app, toList_some, toList_none, if_true, if_false, true_and, and_true, cond_true, sm0, sm1, sm1l, sm2, lc_lt, lc_gt, lc_eq, Int.toNat_natCast, Int.reduceToNat, Nat.reduceAdd, Nat.reduceEqDiff, Int.reduceLT, Int.reduceEq, Int.reduceNeg, Int.reduceAdd, Int.reduceMul, Nat.reduceMul, ms_n, ms_i, ms_l, ms_p, PX]
      exact h1 σ3 j cs e s0 s1 g' (F2.trans (f3.mono rfl)) hq ((f3 1 1 rfl).trans b1) ((f3 19 2 rfl).trans b2) ((f3 19 3 rfl).trans b3)
  · have hF1 := hF.fr f1 rfl
    simp (decide := true) only [RR, ms_app, toList_some, toList_none, if_true, if_false, true_and, and_true, cond_true, sm0, sm1, sm1l, sm2, lc_lt, lc_gt, lc_eq, Int.toNat_natCast, Int.reduceToNat, Nat.reduceAdd, Nat.reduceEqDiff, Int.reduceLT, Int.reduceEq, Int.reduceNeg, Int.reduceAdd, Int.reduceMul, Nat.reduceMul, ms_n, ms_i, ms_l, ms_p, PX, fxX hF1]
    exact h0 _ k p ((f1.mono rfl).set rfl) hq hk rfl e2 e3
end
theorem p_ask {σ : mM} (h : Inv σ) : PairL Inv 133 265 [] σ := by
  have hF := h.1
  obtain ⟨t1, t2, t3⟩ := h.2.1
  obtain ⟨C, w, l, hC, hcx, hcm, hw, hsx, hsm, hkx, hkm, hkv, h9⟩ := h.wrl
  obtain ⟨N, hN⟩ := Int.eq_ofNat_of_zero_le t2.1
  have hT : TxX σ N (fun k => σ 2 k) := ⟨hN, by omega, fun k hk => ⟨rfl, (t3 k (by omega)).2⟩⟩
  refine x_ask (d := 956) hF hC hw hcx hsx hT (fun σ1 j cs e s0 s1 g' f1 hq e1 e2 e3 => ⟨_, rfl, ?_⟩) (fun σ1 k p f1 hq hk e1 e2 e3 => ⟨_, rfl, ?_⟩)
  · have hcm1 := hcm.cg (f1 173 2 rfl) (f1 178 2 rfl) (f1.row 176 rfl) (f1.row 179 rfl) (f1.row 180 rfl) (f1.row 181 rfl)
    have hsm1 := hsm.cg (fun k _ => f1 182 k rfl) hC.1
    refine m_ask (d := 985) (hF.fr f1 rfl) hC hw hcm1 hsm1 (N := N) (t := fun k => σ 2 k) (by rw [f1 146 1 rfl, t1, hN]) (by omega) (fun k hk => by rw [f1.row 147 rfl]; exact t3 k (by omega)) (Or.inl ⟨j, cs, e, s0, s1, g', hq, fun σ2 f2 a1 a7 a8 => ⟨rfl, ?_⟩⟩)
    have F : Fr scrL askT σ σ2 := (f1.mono rfl).trans (f2.mono rfl)
    exact h.ask F ((f2 1 1 rfl).trans e1) a1 (by rw [a7, f2 19 2 rfl, e2]) (by rw [a8, f2 19 3 rfl, e3])
  · have hcm1 := hcm.cg (f1 173 2 rfl) (f1 178 2 rfl) (f1.row 176 rfl) (f1.row 179 rfl) (f1.row 180 rfl) (f1.row 181 rfl)
    have hsm1 := hsm.cg (fun k _ => f1 182 k rfl) hC.1
    refine m_ask (d := 985) (hF.fr f1 rfl) hC hw hcm1 hsm1 (N := N) (t := fun k => σ 2 k) (by rw [f1 146 1 rfl, t1, hN]) (by omega) (fun k hk => by rw [f1.row 147 rfl]; exact t3 k (by omega)) (Or.inr ⟨k, p, hq, hk, fun σ2 f2 a1 a7 a8 => ⟨rfl, ?_⟩⟩)
    have F : Fr scrL askT σ σ2 := (f1.mono rfl).trans (f2.mono rfl)
    exact h.ask F ((f2 1 1 rfl).trans e1) a1 (by rw [a7, f2 19 2 rfl, e2]) (by rw [a8, f2 19 3 rfl, e3])
