section
variable {N : Nat} {t : Nat → Int} {o : Nat}
theorem YF.step (ho : o ≤ 6) (hS : XS N t 3 2 o) (hTn : o < 6 → YT N t (o + 1)) (hFn : o < 6 → YF N t (o + 1)) : YF N t o := by
  intro D σ K s g L hD hF hT hX hL hLN h5 hK1 hK0
  unfold eF at hD
  obtain ⟨d, rfl⟩ : ∃ d, D = d + 6 := ⟨D - 6, by omega⟩
  have n16 := hT.2.1
  have sN := hX.le
  refine Mt.go (lv := [some (.inr (.inr 19)), some (.inl (o : Int)), none]) rfl rfl rfl ?_
  have w1 : Unit → w32 ((o : Int) + 1) = ((o + 1 : Nat) : Int) := fun _ => by rw [w32_small (by omega) (by omega)]; omega
  refine At.blk rfl rfl rfl fun sx => ?_
  simp (decide := true) only [RR, ms_app, toList_some, toList_none, if_true, if_false, true_and, and_true, cond_true, sm0, sm1, sm1l, sm2, lc_lt, lc_gt, lc_eq, Int.toNat_natCast, Int.reduceToNat, Nat.reduceAdd, Nat.reduceEqDiff, Int.reduceLT, Int.reduceEq, Int.reduceNeg, Int.reduceAdd, Int.reduceMul, Nat.reduceMul, ms_n, ms_i, ms_l, ms_p, PX, fxX hF]
  refine cal_of rfl (x_isWord (w := 20) (by decide) hX (fun e hi q1 q3 => ?_) (fun n20 => ?_))
  · -- not
    have hlt := hi.lt (by decide)
    have e27 := hi.2.2.2.1.2.1
    have one : ∀ σ', K (some (.inl 0)) σ' → At (d + 5) 55 1 [some (.inr (.inr 19)), some (.inl (o : Int)), none] [] σ' K := by
      intro σ' h
      refine At.blk rfl rfl rfl fun sx => ?_
      simp (decide := true) only [RR, ms_app, toList_some, toList_none, if_true, if_false, true_and, and_true, cond_true, sm0, sm1, sm1l, sm2, lc_lt, lc_gt, lc_eq, Int.toNat_natCast, Int.reduceToNat, Nat.reduceAdd, Nat.reduceEqDiff, Int.reduceLT, Int.reduceEq, Int.reduceNeg, Int.reduceAdd, Int.reduceMul, Nat.reduceMul, ms_n, ms_i, ms_l, ms_p, PX]
      exact h
    have cx1 : ∀ ws : List Int, cT (12 :: ws) := fun ws => by show ¬(1 ≤ (12 : Int) ∧ (12 : Int) ≤ 4); decide
    simp (decide := true) only [RR, ms_app, toList_some, toList_none, if_true, if_false, true_and, and_true, cond_true, sm0, sm1, sm1l, sm2, lc_lt, lc_gt, lc_eq, Int.toNat_natCast, Int.reduceToNat, Nat.reduceAdd, Nat.reduceEqDiff, Int.reduceLT, Int.reduceEq, Int.reduceNeg, Int.reduceAdd, Int.reduceMul, Nat.reduceMul, ms_n, ms_i, ms_l, ms_p, PX]
    refine cal_of rfl (x_takeOpening ho hF hT hX q1 q3 e27 (fun ho6 σ2 s2 f2 k2 x2 => ?_) (fun ho6 => ?_))
    · rw [show decide (((1 : Int) = 1 ∨ (1 : Int) = 2) ∧ s2 = e) = decide (s2 = e) by simp] at x2
      have k21 := k2.1
      have F2 : Fr xqL xqT σ σ2 := f2.tkq
      have hF2 := hF.fr F2 rfl
      have hT2 : TxX σ2 N t := hT.cg (F2 1 1 rfl) (F2.row 2 rfl)
      have A2 : ApX L σ σ2 [] := ApX.nil hL (f2.mono rfl)
      simp (decide := true) only [RR, ms_app, toList_some, toList_none, if_true, if_false, true_and, and_true, cond_true, sm0, sm1, sm1l, sm2, lc_lt, lc_gt, lc_eq, Int.toNat_natCast, Int.reduceToNat, Nat.reduceAdd, Nat.reduceEqDiff, Int.reduceLT, Int.reduceEq, Int.reduceNeg, Int.reduceAdd, Int.reduceMul, Nat.reduceMul, ms_n, ms_i, ms_l, ms_p, PX, w1 ()]
      refine cal_of rfl (hFn ho6 (d + 5) σ2 _ s2 (decide (s2 = e)) L (by unfold eF; omega) hF2 hT2 x2 A2.1 (by omega) ((F2 19 5 rfl).trans h5) (fun σ3 s3 g3 cs3 f3 x3 hs3 hc3 a3 hA3 => ?_) (fun σ3 kk pp f3 e3 e4 hB3 => ?_))
      · obtain ⟨ty3, cd3, sf3⟩ := hA3
        have F3 := F2.trans f3
        have hF3 := hF.fr F3 rfl
        have A3 : ApX L σ σ3 cs3 := A2.trans a3
        have s3N := x3.le
        simp (decide := true) only [RR, ms_app, toList_some, toList_none, if_true, if_false, true_and, and_true, cond_true, sm0, sm1, sm1l, sm2, lc_lt, lc_gt, lc_eq, Int.toNat_natCast, Int.reduceToNat, Nat.reduceAdd, Nat.reduceEqDiff, Int.reduceLT, Int.reduceEq, Int.reduceNeg, Int.reduceAdd, Int.reduceMul, Nat.reduceMul, ms_n, ms_i, ms_l, ms_p, PX]
        refine At.blk rfl rfl rfl fun sx => ?_
        simp (decide := true) only [RR, ms_app, toList_some, toList_none, if_true, if_false, true_and, and_true, cond_true, sm0, sm1, sm1l, sm2, lc_lt, lc_gt, lc_eq, Int.toNat_natCast, Int.reduceToNat, Nat.reduceAdd, Nat.reduceEqDiff, Int.reduceLT, Int.reduceEq, Int.reduceNeg, Int.reduceAdd, Int.reduceMul, Nat.reduceMul, ms_n, ms_i, ms_l, ms_p, PX, fxX hF3]
        refine cal_of rfl (x_addStep (L := L + cs3.length) hF3 A3.1 (by omega) (step_op 11 (by decide)) ?_)
        simp (decide := true) only [RR, ms_app, toList_some, toList_none, if_true, if_false, true_and, and_true, cond_true, sm0, sm1, sm1l, sm2, lc_lt, lc_gt, lc_eq, Int.toNat_natCast, Int.reduceToNat, Nat.reduceAdd, Nat.reduceEqDiff, Int.reduceLT, Int.reduceEq, Int.reduceNeg, Int.reduceAdd, Int.reduceMul, Nat.reduceMul, ms_n, ms_i, ms_l, ms_p, PX]
        refine hK1 _ s3 g3 (cs3 ++ [12]) ((F3.setr rfl).set rfl) (x3.cg rfl) (by omega) (by simp only [List.length_append, List.length_singleton]; omega) (A3.push (Or.inr (Or.inr (Or.inr (Or.inr (Or.inl ⟨rfl, rfl⟩)))))) ⟨?_, ?_, ?_⟩
        · refine (TyS.one ty3 (fun ts => ?_)).mono (by omega)
          rfl
        · exact cd3.app (CdT.sing (by decide))
        · intro d K σ rc ws q cx hfin
          refine T_not q hi (fun _ σa sa qa ka fa => ?_) (fun h => absurd h (by omega))
          obtain rfl := k2.uniq ka
          refine sf3 d K σa _ _ qa (cx1 ws) (fun σb qb fb => ?_)
          refine TN_pop qb (fun σc qc fc => ?_)
          refine hfin σc ?_ ((fa.trans fb).trans fc)
          rw [List.reverse_append]
          exact qc
      · simp (decide := true) only [RR, ms_app, toList_some, toList_none, if_true, if_false, true_and, and_true, cond_true, sm0, sm1, sm1l, sm2, lc_lt, lc_gt, lc_eq, Int.toNat_natCast, Int.reduceToNat, Nat.reduceAdd, Nat.reduceEqDiff, Int.reduceLT, Int.reduceEq, Int.reduceNeg, Int.reduceAdd, Int.reduceMul, Nat.reduceMul, ms_n, ms_i, ms_l, ms_p, PX]
        refine one _ (hK0 σ3 kk pp (F2.trans f3) e3 e4 ⟨hB3.1, fun d K σ rc ws q cx hq => ?_⟩)
        refine T_not q hi (fun _ σa sa qa ka fa => ?_) (fun h => absurd h (by omega))
        obtain rfl := k2.uniq ka
        exact hB3.2 d K σa _ _ qa (cx1 ws) (hq.go fa)
    · simp (decide := true) only [RR, ms_app, toList_some, toList_none, if_true, if_false, true_and, and_true, cond_true, sm0, sm1, sm1l, sm2, lc_lt, lc_gt, lc_eq, Int.toNat_natCast, Int.reduceToNat, Nat.reduceAdd, Nat.reduceEqDiff, Int.reduceLT, Int.reduceEq, Int.reduceNeg, Int.reduceAdd, Int.reduceMul, Nat.reduceMul, ms_n, ms_i, ms_l, ms_p, PX]
      refine one _ (hK0 _ 4 s ((Fr.same.set rfl).set rfl) rfl rfl ⟨by decide, fun d K σ rc ws q cx hq => ?_⟩)
      exact T_not q hi (fun h => absurd h (by omega)) (fun _ => hq)
  · simp (decide := true) only [RR, ms_app, toList_some, toList_none, if_true, if_false, true_and, and_true, cond_true, sm0, sm1, sm1l, sm2, lc_lt, lc_gt, lc_eq, Int.toNat_natCast, Int.reduceToNat, Nat.reduceAdd, Nat.reduceEqDiff, Int.reduceLT, Int.reduceEq, Int.reduceNeg, Int.reduceAdd, Int.reduceMul, Nat.reduceMul, ms_n, ms_i, ms_l, ms_p, PX]
    refine At.blk rfl rfl rfl fun sx => ?_
    simp (decide := true) only [RR, ms_app, toList_some, toList_none, if_true, if_false, true_and, and_true, cond_true, sm0, sm1, sm1l, sm2, lc_lt, lc_gt, lc_eq, Int.toNat_natCast, Int.reduceToNat, Nat.reduceAdd, Nat.reduceEqDiff, Int.reduceLT, Int.reduceEq, Int.reduceNeg, Int.reduceAdd, Int.reduceMul, Nat.reduceMul, ms_n, ms_i, ms_l, ms_p, PX, fxX hF]
    refine cal_of rfl (x_isSign hF hT (by unfold sgn; omega) hX (fun hp p1 p3 => ?_) (fun n91 => ?_))
    · -- [
      have hp1 := hp.1
      have four : ∀ σ', K (some (.inl 0)) σ' → At (d + 5) 55 4 [some (.inr (.inr 19)), some (.inl (o : Int)), none] [] σ' K := by
        intro σ' h
        refine At.blk rfl rfl rfl fun sx => ?_
        simp (decide := true) only [RR, ms_app, toList_some, toList_none, if_true, if_false, true_and, and_true, cond_true, sm0, sm1, sm1l, sm2, lc_lt, lc_gt, lc_eq, Int.toNat_natCast, Int.reduceToNat, Nat.reduceAdd, Nat.reduceEqDiff, Int.reduceLT, Int.reduceEq, Int.reduceNeg, Int.reduceAdd, Int.reduceMul, Nat.reduceMul, ms_n, ms_i, ms_l, ms_p, PX]
        refine At.blk rfl rfl rfl fun sx => ?_
        simp (decide := true) only [RR, ms_app, toList_some, toList_none, if_true, if_false, true_and, and_true, cond_true, sm0, sm1, sm1l, sm2, lc_lt, lc_gt, lc_eq, Int.toNat_natCast, Int.reduceToNat, Nat.reduceAdd, Nat.reduceEqDiff, Int.reduceLT, Int.reduceEq, Int.reduceNeg, Int.reduceAdd, Int.reduceMul, Nat.reduceMul, ms_n, ms_i, ms_l, ms_p, PX]
        exact h
      have cx1 : ∀ ws : List Int, cA (25 :: ws) := fun ws => ⟨by show ¬(1 ≤ (25 : Int) ∧ (25 : Int) ≤ 4); decide, by show (25 : Int) ≠ 10; decide, by show (25 : Int) ≠ 11; decide, by show (25 : Int) ≠ 12; decide⟩
      simp (decide := true) only [RR, ms_app, toList_some, toList_none, if_true, if_false, true_and, and_true, cond_true, sm0, sm1, sm1l, sm2, lc_lt, lc_gt, lc_eq, Int.toNat_natCast, Int.reduceToNat, Nat.reduceAdd, Nat.reduceEqDiff, Int.reduceLT, Int.reduceEq, Int.reduceNeg, Int.reduceAdd, Int.reduceMul, Nat.reduceMul, ms_n, ms_i, ms_l, ms_p, PX]
      refine cal_of rfl (x_takeOpening ho hF hT hX p1 p3 (by omega) (fun ho6 σ2 s2 f2 k2 x2 => ?_) (fun ho6 => ?_))
      · rw [decide_eq_false (by omega)] at x2
        have k21 := k2.1
        have F2 : Fr xqL xqT σ σ2 := f2.tkq
        have hF2 := hF.fr F2 rfl
        have hT2 : TxX σ2 N t := hT.cg (F2 1 1 rfl) (F2.row 2 rfl)
        have A2 : ApX L σ σ2 [] := ApX.nil hL (f2.mono rfl)
        simp (decide := true) only [RR, ms_app, toList_some, toList_none, if_true, if_false, true_and, and_true, cond_true, sm0, sm1, sm1l, sm2, lc_lt, lc_gt, lc_eq, Int.toNat_natCast, Int.reduceToNat, Nat.reduceAdd, Nat.reduceEqDiff, Int.reduceLT, Int.reduceEq, Int.reduceNeg, Int.reduceAdd, Int.reduceMul, Nat.reduceMul, ms_n, ms_i, ms_l, ms_p, PX, w1 ()]
        refine cal_of rfl (hTn ho6 (d + 5) σ2 _ s2 false L (by unfold eT; omega) hF2 hT2 x2 A2.1 (by omega) ((F2 19 5 rfl).trans h5) (fun σ3 s3 g3 cs3 f3 x3 hs3 hc3 a3 hA3 => ?_) (fun σ3 kk pp f3 e3 e4 hB3 => ?_))
        · obtain ⟨ty3, cd3, ss3, na3, no3⟩ := hA3
          have F3 := F2.trans f3
          have hF3 := hF.fr F3 rfl
          have hT3 : TxX σ3 N t := hT.cg (F3 1 1 rfl) (F3.row 2 rfl)
          have A3 : ApX L σ σ3 cs3 := A2.trans a3
          simp (decide := true) only [RR, ms_app, toList_some, toList_none, if_true, if_false, true_and, and_true, cond_true, sm0, sm1, sm1l, sm2, lc_lt, lc_gt, lc_eq, Int.toNat_natCast, Int.reduceToNat, Nat.reduceAdd, Nat.reduceEqDiff, Int.reduceLT, Int.reduceEq, Int.reduceNeg, Int.reduceAdd, Int.reduceMul, Nat.reduceMul, ms_n, ms_i, ms_l, ms_p, PX]
          refine cal_of rfl (x_takeSign hF3 hT3 (c := 93) (by unfold sgn; omega) x3 (fun σ4 s4 hi4 k4 f4 x4 => ?_) (fun hi4 => ?_))
          · have k41 := k4.1
            simp (decide := true) only [RR, ms_app, toList_some, toList_none, if_true, if_false, true_and, and_true, cond_true, sm0, sm1, sm1l, sm2, lc_lt, lc_gt, lc_eq, Int.toNat_natCast, Int.reduceToNat, Nat.reduceAdd, Nat.reduceEqDiff, Int.reduceLT, Int.reduceEq, Int.reduceNeg, Int.reduceAdd, Int.reduceMul, Nat.reduceMul, ms_n, ms_i, ms_l, ms_p, PX]
            refine At.blk rfl rfl rfl fun sx => ?_
            simp (decide := true) only [RR, ms_app, toList_some, toList_none, if_true, if_false, true_and, and_true, cond_true, sm0, sm1, sm1l, sm2, lc_lt, lc_gt, lc_eq, Int.toNat_natCast, Int.reduceToNat, Nat.reduceAdd, Nat.reduceEqDiff, Int.reduceLT, Int.reduceEq, Int.reduceNeg, Int.reduceAdd, Int.reduceMul, Nat.reduceMul, ms_n, ms_i, ms_l, ms_p, PX]
            refine hK1 σ4 s4 false cs3 (F3.trans f4.tkq) x4 (by omega) (by omega) (A3.mv (f4.mono rfl)) ⟨ty3.mono (by omega), cd3, ?_⟩
            intro d K σ rc ws q cx hfin
            refine T_square q hp (fun _ σa sa qa ka fa => ?_) (fun h => absurd h (by omega))
            obtain rfl := k2.uniq ka
            refine ss3 d K σa _ _ qa (cx1 ws) (fun σb rcb pb qb eb hb fb => ?_)
            refine TG_close hb qb hi4 (fun σc sc qc kc fc => ?_)
            obtain rfl := k4.uniq kc
            rw [eb] at qc
            exact hfin σc qc ((fa.trans fb).trans fc)
          · simp (decide := true) only [RR, ms_app, toList_some, toList_none, if_true, if_false, true_and, and_true, cond_true, sm0, sm1, sm1l, sm2, lc_lt, lc_gt, lc_eq, Int.toNat_natCast, Int.reduceToNat, Nat.reduceAdd, Nat.reduceEqDiff, Int.reduceLT, Int.reduceEq, Int.reduceNeg, Int.reduceAdd, Int.reduceMul, Nat.reduceMul, ms_n, ms_i, ms_l, ms_p, PX]
            refine four _ (hK0 _ 1 s3 ((F3.set rfl).set rfl) rfl rfl ⟨by decide, fun d K σ rc ws q cx hq => ?_⟩)
            refine T_square q hp (fun _ σa sa qa ka fa => ?_) (fun h => absurd h (by omega))
            obtain rfl := k2.uniq ka
            refine ss3 d K σa _ _ qa (cx1 ws) (fun σb rcb pb qb eb hb fb => ?_)
            exact TG_fail qb hi4 (List.mem_append_right _ List.mem_cons_self) na3 no3 (hq.go (fa.trans fb))
        · simp (decide := true) only [RR, ms_app, toList_some, toList_none, if_true, if_false, true_and, and_true, cond_true, sm0, sm1, sm1l, sm2, lc_lt, lc_gt, lc_eq, Int.toNat_natCast, Int.reduceToNat, Nat.reduceAdd, Nat.reduceEqDiff, Int.reduceLT, Int.reduceEq, Int.reduceNeg, Int.reduceAdd, Int.reduceMul, Nat.reduceMul, ms_n, ms_i, ms_l, ms_p, PX]
          refine four _ (hK0 σ3 kk pp (F2.trans f3) e3 e4 ⟨hB3.1, fun d K σ rc ws q cx hq => ?_⟩)
          refine T_square q hp (fun _ σa sa qa ka fa => ?_) (fun h => absurd h (by omega))
          obtain rfl := k2.uniq ka
          exact hB3.2 d K σa _ _ qa (cx1 ws) (hq.go fa)
      · simp (decide := true) only [RR, ms_app, toList_some, toList_none, if_true, if_false, true_and, and_true, cond_true, sm0, sm1, sm1l, sm2, lc_lt, lc_gt, lc_eq, Int.toNat_natCast, Int.reduceToNat, Nat.reduceAdd, Nat.reduceEqDiff, Int.reduceLT, Int.reduceEq, Int.reduceNeg, Int.reduceAdd, Int.reduceMul, Nat.reduceMul, ms_n, ms_i, ms_l, ms_p, PX]
        refine four _ (hK0 _ 4 s ((Fr.same.set rfl).set rfl) rfl rfl ⟨by decide, fun d K σ rc ws q cx hq => ?_⟩)
        exact T_square q hp (fun h => absurd h (by omega)) (fun _ => hq)
    · simp (decide := true) only [RR, ms_app, toList_some, toList_none, if_true, if_false, true_and, and_true, cond_true, sm0, sm1, sm1l, sm2, lc_lt, lc_gt, lc_eq, Int.toNat_natCast, Int.reduceToNat, Nat.reduceAdd, Nat.reduceEqDiff, Int.reduceLT, Int.reduceEq, Int.reduceNeg, Int.reduceAdd, Int.reduceMul, Nat.reduceMul, ms_n, ms_i, ms_l, ms_p, PX]
      refine At.blk rfl rfl rfl fun sx => ?_
      simp (decide := true) only [RR, ms_app, toList_some, toList_none, if_true, if_false, true_and, and_true, cond_true, sm0, sm1, sm1l, sm2, lc_lt, lc_gt, lc_eq, Int.toNat_natCast, Int.reduceToNat, Nat.reduceAdd, Nat.reduceEqDiff, Int.reduceLT, Int.reduceEq, Int.reduceNeg, Int.reduceAdd, Int.reduceMul, Nat.reduceMul, ms_n, ms_i, ms_l, ms_p, PX, fxX hF]
      refine cal_of rfl (x_isWord (w := 21) (by decide) hX (fun e hi q1 q3 => ?_) (fun n21 => ?_))
      · -- all
        have hlt := hi.lt (by decide)
        have e27 := hi.2.2.2.1.2.1
        simp (decide := true) only [RR, ms_app, toList_some, toList_none, if_true, if_false, true_and, and_true, cond_true, sm0, sm1, sm1l, sm2, lc_lt, lc_gt, lc_eq, Int.toNat_natCast, Int.reduceToNat, Nat.reduceAdd, Nat.reduceEqDiff, Int.reduceLT, Int.reduceEq, Int.reduceNeg, Int.reduceAdd, Int.reduceMul, Nat.reduceMul, ms_n, ms_i, ms_l, ms_p, PX, fxX hF]
        refine cal_of rfl (x_addStep hF hL (by omega) (step_num ⟨by decide, by decide⟩) ?_)
        have F1 : Fr xqL xqT σ (mj_set (mj_set σ 16 L (32 * 1)) 15 3 ((L + 1 : Nat) : Int)) := (Fr.same.setr rfl).set rfl
        have hF1 := hF.fr F1 rfl
        have hT1 : TxX (mj_set (mj_set σ 16 L (32 * 1)) 15 3 ((L + 1 : Nat) : Int)) N t := hT.cg rfl rfl
        have A1 : ApX L σ (mj_set (mj_set σ 16 L (32 * 1)) 15 3 ((L + 1 : Nat) : Int)) [13] := ApX.push (cs := []) (ApX.nil hL Fr.same) (Or.inr (Or.inl ⟨rfl, rfl⟩))
        have e1 : mj_set (mj_set σ 16 L (32 * 1)) 15 3 ((L + 1 : Nat) : Int) 20 1 = 1 := q1
        have e3 : mj_set (mj_set σ 16 L (32 * 1)) 15 3 ((L + 1 : Nat) : Int) 20 3 = (e : Int) := q3
        generalize mj_set (mj_set σ 16 L (32 * 1)) 15 3 ((L + 1 : Nat) : Int) = σ1 at *
        simp (decide := true) only [RR, ms_app, toList_some, toList_none, if_true, if_false, true_and, and_true, cond_true, sm0, sm1, sm1l, sm2, lc_lt, lc_gt, lc_eq, Int.toNat_natCast, Int.reduceToNat, Nat.reduceAdd, Nat.reduceEqDiff, Int.reduceLT, Int.reduceEq, Int.reduceNeg, Int.reduceAdd, Int.reduceMul, Nat.reduceMul, ms_n, ms_i, ms_l, ms_p, PX, fxX hF1]
        refine cal_of rfl (x_next hF1 hT1 e1 e3 e27 (fun σ2 s2 f2 k2 x2 => ?_))
        have k21 := k2.1
        rw [show decide (((1 : Int) = 1 ∨ (1 : Int) = 2) ∧ s2 = e) = decide (s2 = e) by simp] at x2
        simp (decide := true) only [RR, ms_app, toList_some, toList_none, if_true, if_false, true_and, and_true, cond_true, sm0, sm1, sm1l, sm2, lc_lt, lc_gt, lc_eq, Int.toNat_natCast, Int.reduceToNat, Nat.reduceAdd, Nat.reduceEqDiff, Int.reduceLT, Int.reduceEq, Int.reduceNeg, Int.reduceAdd, Int.reduceMul, Nat.reduceMul, ms_n, ms_i, ms_l, ms_p, PX]
        refine hK1 σ2 s2 _ [13] (F1.trans f2.tkq) x2 (by omega) (by simp only [List.length_singleton]; omega) (A1.mv (f2.mono rfl)) ⟨fun ts ht => ?_, CdT.sing (by decide), ?_⟩
        · show (tyC 13 ts).bind (tys []) = _
          have : tyC 13 ts = some (true :: ts) := by
            unfold tyC
            rw [if_neg (by decide), if_neg (by decide), if_neg (by decide), if_pos rfl, if_pos (by omega)]
          rw [this]; rfl
        · intro d K σ rc ws q cx hfin
          refine T_all q hi (fun σa sa qa ka fa => ?_)
          obtain rfl := k2.uniq ka
          exact hfin σa qa fa
      · -- sum sign sum
        simp (decide := true) only [RR, ms_app, toList_some, toList_none, if_true, if_false, true_and, and_true, cond_true, sm0, sm1, sm1l, sm2, lc_lt, lc_gt, lc_eq, Int.toNat_natCast, Int.reduceToNat, Nat.reduceAdd, Nat.reduceEqDiff, Int.reduceLT, Int.reduceEq, Int.reduceNeg, Int.reduceAdd, Int.reduceMul, Nat.reduceMul, ms_n, ms_i, ms_l, ms_p, PX]
        refine At.blk rfl rfl rfl fun sx => ?_
        simp (decide := true) only [RR, ms_app, toList_some, toList_none, if_true, if_false, true_and, and_true, cond_true, sm0, sm1, sm1l, sm2, lc_lt, lc_gt, lc_eq, Int.toNat_natCast, Int.reduceToNat, Nat.reduceAdd, Nat.reduceEqDiff, Int.reduceLT, Int.reduceEq, Int.reduceNeg, Int.reduceAdd, Int.reduceMul, Nat.reduceMul, ms_n, ms_i, ms_l, ms_p, PX]
        refine cal_of rfl (hS (d + 5) σ _ s g L (by unfold dS; omega) hF hT hX hL hLN h5 (fun σ1 s1 g1 cs1 f1 x1 hs1 hc1 a1 hA1 => ?_) (fun σ1 kk pp f1 e1 e2 hB1 => ?_))
        · obtain ⟨ty1, cd1, ss1, no1⟩ := hA1
          have hF1 := hF.fr f1 rfl
          have hT1 : TxX σ1 N t := hT.cg (f1 1 1 rfl) (f1.row 2 rfl)
          have s1N := x1.le
          simp (decide := true) only [RR, ms_app, toList_some, toList_none, if_true, if_false, true_and, and_true, cond_true, sm0, sm1, sm1l, sm2, lc_lt, lc_gt, lc_eq, Int.toNat_natCast, Int.reduceToNat, Nat.reduceAdd, Nat.reduceEqDiff, Int.reduceLT, Int.reduceEq, Int.reduceNeg, Int.reduceAdd, Int.reduceMul, Nat.reduceMul, ms_n, ms_i, ms_l, ms_p, PX]
          refine At.blk rfl rfl rfl fun sx => ?_
          simp (decide := true) only [RR, ms_app, toList_some, toList_none, if_true, if_false, true_and, and_true, cond_true, sm0, sm1, sm1l, sm2, lc_lt, lc_gt, lc_eq, Int.toNat_natCast, Int.reduceToNat, Nat.reduceAdd, Nat.reduceEqDiff, Int.reduceLT, Int.reduceEq, Int.reduceNeg, Int.reduceAdd, Int.reduceMul, Nat.reduceMul, ms_n, ms_i, ms_l, ms_p, PX]
          refine cal_of rfl (x_compareStep hF1 hT1 x1 (fun c u v hcv hi q1 q3 => ?_) (fun n60 n62 n61 => ?_))
          · have hi1 := hi.1
            simp (decide := true) only [RR, ms_app, toList_some, toList_none, if_true, if_false, true_and, and_true, cond_true, sm0, sm1, sm1l, sm2, lc_lt, lc_gt, lc_eq, Int.toNat_natCast, Int.reduceToNat, Nat.reduceAdd, Nat.reduceEqDiff, Int.reduceLT, Int.reduceEq, Int.reduceNeg, Int.reduceAdd, Int.reduceMul, Nat.reduceMul, ms_n, ms_i, ms_l, ms_p, PX]
            rw [if_neg (by omega)]
            refine At.blk rfl rfl rfl fun sx => ?_
            simp (decide := true) only [RR, ms_app, toList_some, toList_none, if_true, if_false, true_and, and_true, cond_true, sm0, sm1, sm1l, sm2, lc_lt, lc_gt, lc_eq, Int.toNat_natCast, Int.reduceToNat, Nat.reduceAdd, Nat.reduceEqDiff, Int.reduceLT, Int.reduceEq, Int.reduceNeg, Int.reduceAdd, Int.reduceMul, Nat.reduceMul, ms_n, ms_i, ms_l, ms_p, PX, fxX hF1]
            refine cal_of rfl (x_next hF1 hT1 q1 q3 (by omega) (fun σ2 s2 f2 k2 x2 => ?_))
            rw [decide_eq_false (by omega)] at x2
            have k21 := k2.1
            have F2 : Fr xqL xqT σ σ2 := f1.trans f2.tkq
            have hF2 := hF.fr F2 rfl
            have hT2 : TxX σ2 N t := hT.cg (F2 1 1 rfl) (F2.row 2 rfl)
            have a2 : ApX L σ σ2 cs1 := a1.mv (f2.mono rfl)
            have hcv' : c = 60 ∧ v = 7 ∨ c = 62 ∧ v = 8 ∨ c = 61 ∧ v = 9 := by omega
            simp (decide := true) only [RR, ms_app, toList_some, toList_none, if_true, if_false, true_and, and_true, cond_true, sm0, sm1, sm1l, sm2, lc_lt, lc_gt, lc_eq, Int.toNat_natCast, Int.reduceToNat, Nat.reduceAdd, Nat.reduceEqDiff, Int.reduceLT, Int.reduceEq, Int.reduceNeg, Int.reduceAdd, Int.reduceMul, Nat.reduceMul, ms_n, ms_i, ms_l, ms_p, PX]
            refine cal_of rfl (hS (d + 5) σ2 _ s2 false (L + cs1.length) (by unfold dS; omega) hF2 hT2 x2 a2.1 (by omega) ((F2 19 5 rfl).trans h5) (fun σ3 s3 g3 cs3 f3 x3 hs3 hc3 a3 hA3 => ?_) (fun σ3 kk pp f3 e3 e4 hB3 => ?_))
            · obtain ⟨ty3, cd3, ss3, no3⟩ := hA3
              have F3 := F2.trans f3
              have hF3 := hF.fr F3 rfl
              have A3 := a2.trans a3
              have s3N := x3.le
              have st32 : i_or (i_shl 0 5) u = u := by
                rcases hcv with ⟨_, rfl, _⟩ | ⟨_, rfl, _⟩ | ⟨_, rfl, _⟩
                · exact step_op 18 (by decide)
                · exact step_op 19 (by decide)
                · exact step_op 20 (by decide)
              have hst : StepR u v := Or.inr (Or.inr (Or.inr (Or.inr (Or.inr ⟨u, by omega, rfl, by omega⟩))))
              simp (decide := true) only [RR, ms_app, toList_some, toList_none, if_true, if_false, true_and, and_true, cond_true, sm0, sm1, sm1l, sm2, lc_lt, lc_gt, lc_eq, Int.toNat_natCast, Int.reduceToNat, Nat.reduceAdd, Nat.reduceEqDiff, Int.reduceLT, Int.reduceEq, Int.reduceNeg, Int.reduceAdd, Int.reduceMul, Nat.reduceMul, ms_n, ms_i, ms_l, ms_p, PX]
              refine At.blk rfl rfl rfl fun sx => ?_
              simp (decide := true) only [RR, ms_app, toList_some, toList_none, if_true, if_false, true_and, and_true, cond_true, sm0, sm1, sm1l, sm2, lc_lt, lc_gt, lc_eq, Int.toNat_natCast, Int.reduceToNat, Nat.reduceAdd, Nat.reduceEqDiff, Int.reduceLT, Int.reduceEq, Int.reduceNeg, Int.reduceAdd, Int.reduceMul, Nat.reduceMul, ms_n, ms_i, ms_l, ms_p, PX, fxX hF3]
              refine cal_of rfl (x_addStep (L := L + (cs1 ++ cs3).length) hF3 A3.1 (by rw [List.length_append]; omega) st32 ?_)
              simp (decide := true) only [RR, ms_app, toList_some, toList_none, if_true, if_false, true_and, and_true, cond_true, sm0, sm1, sm1l, sm2, lc_lt, lc_gt, lc_eq, Int.toNat_natCast, Int.reduceToNat, Nat.reduceAdd, Nat.reduceEqDiff, Int.reduceLT, Int.reduceEq, Int.reduceNeg, Int.reduceAdd, Int.reduceMul, Nat.reduceMul, ms_n, ms_i, ms_l, ms_p, PX]
              refine hK1 _ s3 g3 (cs1 ++ cs3 ++ [v]) ((F3.setr rfl).set rfl) (x3.cg rfl) (by omega) (by simp only [List.length_append, List.length_singleton]; omega) (A3.push hst) ⟨?_, ?_, ?_⟩
              · exact (TyS.two ty1 ty3 (tyC_cmp (v := v) (by omega))).mono (by omega)
              · exact (cd1.tst.app cd3.tst).app (CdT.sing (by omega))
              · intro d K σ rc ws q cx hfin
                exact T_cmp q cx n91 n20 n21 (Or.inr ⟨s1, g1, cs1, ss1, no1, hs1, Or.inr ⟨c, v, s2, hcv', hi, k2, Or.inr ⟨s3, g3, cs3, ss3, no3, hs3, hc3, hfin⟩⟩⟩)
            · simp (decide := true) only [RR, ms_app, toList_some, toList_none, if_true, if_false, true_and, and_true, cond_true, sm0, sm1, sm1l, sm2, lc_lt, lc_gt, lc_eq, Int.toNat_natCast, Int.reduceToNat, Nat.reduceAdd, Nat.reduceEqDiff, Int.reduceLT, Int.reduceEq, Int.reduceNeg, Int.reduceAdd, Int.reduceMul, Nat.reduceMul, ms_n, ms_i, ms_l, ms_p, PX]
              refine hK0 σ3 kk pp (F2.trans f3) e3 e4 ⟨hB3.1, fun d K σ rc ws q cx hq => ?_⟩
              exact T_cmp q cx n91 n20 n21 (Or.inr ⟨s1, g1, cs1, ss1, no1, hs1, Or.inr ⟨c, v, s2, hcv', hi, k2, Or.inl ⟨kk, pp, hB3, hq⟩⟩⟩)
          · simp (decide := true) only [RR, ms_app, toList_some, toList_none, if_true, if_false, true_and, and_true, cond_true, sm0, sm1, sm1l, sm2, lc_lt, lc_gt, lc_eq, Int.toNat_natCast, Int.reduceToNat, Nat.reduceAdd, Nat.reduceEqDiff, Int.reduceLT, Int.reduceEq, Int.reduceNeg, Int.reduceAdd, Int.reduceMul, Nat.reduceMul, ms_n, ms_i, ms_l, ms_p, PX, fxX hF1, x1.st]
            refine cal_of rfl (x_fail ?_)
            simp (decide := true) only [RR, ms_app, toList_some, toList_none, if_true, if_false, true_and, and_true, cond_true, sm0, sm1, sm1l, sm2, lc_lt, lc_gt, lc_eq, Int.toNat_natCast, Int.reduceToNat, Nat.reduceAdd, Nat.reduceEqDiff, Int.reduceLT, Int.reduceEq, Int.reduceNeg, Int.reduceAdd, Int.reduceMul, Nat.reduceMul, ms_n, ms_i, ms_l, ms_p, PX]
            refine hK0 _ 1 s1 ((f1.set rfl).set rfl) rfl rfl ⟨by decide, fun d K σ rc ws q cx hq => ?_⟩
            exact T_cmp q cx n91 n20 n21 (Or.inr ⟨s1, g1, cs1, ss1, no1, hs1, Or.inl ⟨n60, n62, n61, hq⟩⟩)
        · simp (decide := true) only [RR, ms_app, toList_some, toList_none, if_true, if_false, true_and, and_true, cond_true, sm0, sm1, sm1l, sm2, lc_lt, lc_gt, lc_eq, Int.toNat_natCast, Int.reduceToNat, Nat.reduceAdd, Nat.reduceEqDiff, Int.reduceLT, Int.reduceEq, Int.reduceNeg, Int.reduceAdd, Int.reduceMul, Nat.reduceMul, ms_n, ms_i, ms_l, ms_p, PX]
          refine hK0 σ1 kk pp f1 e1 e2 ⟨hB1.1, fun d K σ rc ws q cx hq => ?_⟩
          exact T_cmp q cx n91 n20 n21 (Or.inl ⟨kk, pp, hB1, hq⟩)
theorem Y_all : ∀ m o : Nat, 6 - o = m → o ≤ 6 → YF N t o ∧ YT N t o := by
  intro m
  induction m with
  | zero =>
    intro o h1 h2
    have hf : YF N t o := YF.step h2 (X_all (Or.inr (Or.inr (Or.inr ⟨rfl, rfl⟩))) _ o rfl h2).2 (fun h => absurd h (by omega)) (fun h => absurd h (by omega))
    exact ⟨hf, (hf.both h2).test h2⟩
  | succ m ih =>
    intro o h1 h2
    have hf : YF N t o := YF.step h2 (X_all (Or.inr (Or.inr (Or.inr ⟨rfl, rfl⟩))) _ o rfl h2).2 (fun h => (ih (o + 1) (by omega) (by omega)).2) (fun h => (ih (o + 1) (by omega) (by omega)).1)
    exact ⟨hf, (hf.both h2).test h2⟩
end
