section
variable {N : Nat} {t : Nat → Int} {sc tk : Int} {o : Nat}
theorem Fr.tkq {σ σ' : mM} (f : Fr [] tkL σ σ') : Fr xqL xqT σ σ' := f.mono rfl
theorem TyS.lop {b c : Bool} {h h' : Nat} {x y : List Int} {v : Int} (hx : TyS b h x) (hy : TyS b h' y) (hh : h' + 1 ≤ h) (hv : ∀ ts : List Bool, tyC v (b :: b :: ts) = some (c :: ts)) : TyS c h (x ++ y ++ [v]) := by
  intro ts ht
  rw [tys_app, tys_app, hx ts (by omega)]
  show (tys y (b :: ts)).bind (tys [v]) = _
  rw [hy (b :: ts) (by simp only [List.length_cons]; omega)]
  show (tyC v (b :: b :: ts)).bind (tys []) = _
  rw [hv]; rfl
theorem XF.prod (h : XF N t sc tk o) (ho : o ≤ 6) : XP N t sc tk o := by
  intro D σ K s g L hD hF hT hX hL hLN h5 hK1 hK0
  unfold dP at hD
  obtain ⟨d, rfl⟩ : ∃ d, D = d + 4 := ⟨D - 4, by omega⟩
  have n16 := hT.2.1
  have sN := hX.le
  refine Mt.go (lv := [some (.inr (.inr 19)), some (.inl (o : Int)), none, none]) rfl rfl rfl ?_
  refine At.blk rfl rfl rfl fun sx => ?_
  simp (decide := true) only [RR, ms_app, toList_some, toList_none, if_true, if_false, true_and, and_true, cond_true, sm0, sm1, sm1l, sm2, lc_lt, lc_gt, lc_eq, Int.toNat_natCast, Int.reduceToNat, Nat.reduceAdd, Nat.reduceEqDiff, Int.reduceLT, Int.reduceEq, Int.reduceNeg, Int.reduceAdd, Int.reduceMul, Nat.reduceMul, ms_n, ms_i, ms_l, ms_p, PX]
  refine cal_of rfl (h (d + 3) σ _ s g L (by unfold dF; omega) hF hT hX hL hLN h5 (fun σ1 s1 g1 cs f1 x1 hs1 hc1 a1 hA => ?_) (fun σ1 k p f1 e1 e2 hB => ?_))
  · obtain ⟨ty1, cd1, sf1⟩ := hA
    simp (decide := true) only [RR, ms_app, toList_some, toList_none, if_true, if_false, true_and, and_true, cond_true, sm0, sm1, sm1l, sm2, lc_lt, lc_gt, lc_eq, Int.toNat_natCast, Int.reduceToNat, Nat.reduceAdd, Nat.reduceEqDiff, Int.reduceLT, Int.reduceEq, Int.reduceNeg, Int.reduceAdd, Int.reduceMul, Nat.reduceMul, ms_n, ms_i, ms_l, ms_p, PX]
    refine At.blk rfl rfl rfl fun sx => ?_
    simp (decide := true) only [RR, ms_app, toList_some, toList_none, if_true, if_false, true_and, and_true, cond_true, sm0, sm1, sm1l, sm2, lc_lt, lc_gt, lc_eq, Int.toNat_natCast, Int.reduceToNat, Nat.reduceAdd, Nat.reduceEqDiff, Int.reduceLT, Int.reduceEq, Int.reduceNeg, Int.reduceAdd, Int.reduceMul, Nat.reduceMul, ms_n, ms_i, ms_l, ms_p, PX]
    have sp1 : SPok N t tk o s g s1 g1 cs := by
      intro d was K σ rc up dn q cx hfin
      refine sf1 d was K σ rc up dn q (fun σ' q' f' => ?_)
      exact QE_end q' cx.2 (hfin σ' _ [] q' rfl (fun y hy => by cases hy) f')
    have loop : ∀ (m : Nat) (k : Nat) (σ' : mM) (s' : Nat) (g' : Bool) (cs : List Int) (o3 : Option mV), N - s' = m → k + s < s' → Fr xqL xqT σ σ' → TX σ' N t s' g' → cs.length ≤ s' - s → ApX L σ σ' cs → TyS false (20 - 3 * o) cs → CdS tk cs → SPok N t tk o s g s' g' cs → At (d + 3) 57 2 [some (.inr (.inr 19)), some (.inl (o : Int)), some (.inl (k : Int)), o3] [] σ' K := by
      intro m
      induction m using Nat.strongRecOn with
      | ind m ih =>
        intro k σ' s' g' cs o3 hm hk f x hc a ty cd sp
        have hF' := hF.fr f rfl
        have hT' : TxX σ' N t := hT.cg (f 1 1 rfl) (f.row 2 rfl)
        have s'N := x.le
        have three : ∀ (c v st : Int), (c = 42 ∧ v = 3 ∧ st = 14 ∨ c = 47 ∧ v = 4 ∧ st = 15) → IsSg N t s' c → σ' 20 1 = 3 → σ' 20 3 = ((s' + 1 : Nat) : Int) → At (d + 3) 57 5 [some (.inr (.inr 19)), some (.inl (o : Int)), some (.inl (k : Int)), o3] [.inl st] σ' K := by
          intro c v st hcv hi q1 q3
          have hi1 := hi.1
          refine At.blk rfl rfl rfl fun sx => ?_
          simp (decide := true) only [RR, ms_app, toList_some, toList_none, if_true, if_false, true_and, and_true, cond_true, sm0, sm1, sm1l, sm2, lc_lt, lc_gt, lc_eq, Int.toNat_natCast, Int.reduceToNat, Nat.reduceAdd, Nat.reduceEqDiff, Int.reduceLT, Int.reduceEq, Int.reduceNeg, Int.reduceAdd, Int.reduceMul, Nat.reduceMul, ms_n, ms_i, ms_l, ms_p, PX, fxX hF']
          refine cal_of rfl (x_next hF' hT' q1 q3 (by omega) (fun σ2 s2 f2 k2 x2 => ?_))
          rw [decide_eq_false (by omega)] at x2
          have k21 := k2.1
          have F2 : Fr xqL xqT σ σ2 := f.trans f2.tkq
          have hF2 := hF.fr F2 rfl
          have hT2 : TxX σ2 N t := hT.cg (F2 1 1 rfl) (F2.row 2 rfl)
          have a2 : ApX L σ σ2 cs := a.mv (f2.mono rfl)
          have h52 : σ2 19 5 = sc := (F2 19 5 rfl).trans h5
          simp (decide := true) only [RR, ms_app, toList_some, toList_none, if_true, if_false, true_and, and_true, cond_true, sm0, sm1, sm1l, sm2, lc_lt, lc_gt, lc_eq, Int.toNat_natCast, Int.reduceToNat, Nat.reduceAdd, Nat.reduceEqDiff, Int.reduceLT, Int.reduceEq, Int.reduceNeg, Int.reduceAdd, Int.reduceMul, Nat.reduceMul, ms_n, ms_i, ms_l, ms_p, PX]
          refine cal_of rfl (h (d + 3) σ2 _ s2 false (L + cs.length) (by unfold dF; omega) hF2 hT2 x2 a2.1 (by omega) h52 (fun σ3 s3 g3 cs3 f3 x3 hs3 hc3 a3 hA3 => ?_) (fun σ3 kk pp f3 e3 e4 hB3 => ?_))
          · obtain ⟨ty3, cd3, sf3⟩ := hA3
            have F3 := F2.trans f3
            have hF3 := hF.fr F3 rfl
            have A3 := a2.trans a3
            have s3N := x3.le
            have w1 : Unit → w32 ((k : Int) + 1) = ((k + 1 : Nat) : Int) := fun _ => by rw [w32_small (by omega) (by omega)]; omega
            have st32 : i_or (i_shl 0 5) st = st := by
              rcases hcv with ⟨_, _, rfl⟩ | ⟨_, _, rfl⟩
              · exact step_op 14 (by decide)
              · exact step_op 15 (by decide)
            have hst : StepR st v := by
              refine Or.inr (Or.inr (Or.inr (Or.inr (Or.inr ⟨st, by omega, rfl, by omega⟩))))
            simp (decide := true) only [RR, ms_app, toList_some, toList_none, if_true, if_false, true_and, and_true, cond_true, sm0, sm1, sm1l, sm2, lc_lt, lc_gt, lc_eq, Int.toNat_natCast, Int.reduceToNat, Nat.reduceAdd, Nat.reduceEqDiff, Int.reduceLT, Int.reduceEq, Int.reduceNeg, Int.reduceAdd, Int.reduceMul, Nat.reduceMul, ms_n, ms_i, ms_l, ms_p, PX]
            refine At.blk rfl rfl rfl fun sx => ?_
            simp (decide := true) only [RR, ms_app, toList_some, toList_none, if_true, if_false, true_and, and_true, cond_true, sm0, sm1, sm1l, sm2, lc_lt, lc_gt, lc_eq, Int.toNat_natCast, Int.reduceToNat, Nat.reduceAdd, Nat.reduceEqDiff, Int.reduceLT, Int.reduceEq, Int.reduceNeg, Int.reduceAdd, Int.reduceMul, Nat.reduceMul, ms_n, ms_i, ms_l, ms_p, PX, fxX hF3]
            refine cal_of rfl (x_addStep (L := L + (cs ++ cs3).length) hF3 A3.1 (by rw [List.length_append]; omega) st32 ?_)
            simp (decide := true) only [RR, ms_app, toList_some, toList_none, if_true, if_false, true_and, and_true, cond_true, sm0, sm1, sm1l, sm2, lc_lt, lc_gt, lc_eq, Int.toNat_natCast, Int.reduceToNat, Nat.reduceAdd, Nat.reduceEqDiff, Int.reduceLT, Int.reduceEq, Int.reduceNeg, Int.reduceAdd, Int.reduceMul, Nat.reduceMul, ms_n, ms_i, ms_l, ms_p, PX, w1 ()]
            have F4 : Fr xqL xqT σ (mj_set (mj_set σ3 16 (L + (cs ++ cs3).length) st) 15 3 ((L + (cs ++ cs3).length + 1 : Nat) : Int)) := (F3.setr rfl).set rfl
            refine ih (N - s3) (by omega) (k + 1) _ s3 g3 (cs ++ cs3 ++ [v]) _ rfl (by omega) F4 (x3.cg rfl) (by simp only [List.length_append, List.length_singleton]; omega) (A3.push hst) ?_ ?_ ?_
            · exact ty.lop ty3 (by omega) (tyC_op (v := v) (by omega))
            · refine (cd.app cd3).app (fun c hc => ?_)
              rw [List.mem_singleton] at hc
              exact Or.inr (Or.inr (Or.inl (by omega)))
            · intro d was K σ rc up dn q cx hfin
              refine sp d was K σ rc up dn q cx (fun σa rca pa qa ea ha fa => ?_)
              refine QG_mul (c := c) (v := v) (by omega) ha cx.1 qa hi (fun σb sb qb kb fb => ?_)
              obtain rfl := k2.uniq kb
              refine sf3 d was K σb _ _ dn qb (fun σc qc fc => ?_)
              refine QE_end qc (fun x l e => by injection e with e1 e2; omega) ?_
              refine hfin σc (cs3.reverse ++ (pa.reverse ++ rca)) [v] qc ?_ (fun y hy => by rw [List.mem_singleton] at hy; omega) ((fa.trans fb).trans fc)
              rw [ea]
              simp [List.append_assoc]
          · simp (decide := true) only [RR, ms_app, toList_some, toList_none, if_true, if_false, true_and, and_true, cond_true, sm0, sm1, sm1l, sm2, lc_lt, lc_gt, lc_eq, Int.toNat_natCast, Int.reduceToNat, Nat.reduceAdd, Nat.reduceEqDiff, Int.reduceLT, Int.reduceEq, Int.reduceNeg, Int.reduceAdd, Int.reduceMul, Nat.reduceMul, ms_n, ms_i, ms_l, ms_p, PX]
            refine hK0 σ3 kk pp (F2.trans f3) e3 e4 ⟨hB3.1, fun d was K σ rc up dn q cx hq => ?_⟩
            refine sp d was K σ rc up dn q cx (fun σa rca pa qa ea ha fa => ?_)
            refine QG_mul (c := c) (v := v) (by omega) ha cx.1 qa hi (fun σb sb qb kb fb => ?_)
            obtain rfl := k2.uniq kb
            exact hB3.2 d was K σb _ _ dn qb (hq.go (fa.trans fb))
        refine At.blk rfl rfl rfl fun sx => ?_
        simp (decide := true) only [RR, ms_app, toList_some, toList_none, if_true, if_false, true_and, and_true, cond_true, sm0, sm1, sm1l, sm2, lc_lt, lc_gt, lc_eq, Int.toNat_natCast, Int.reduceToNat, Nat.reduceAdd, Nat.reduceEqDiff, Int.reduceLT, Int.reduceEq, Int.reduceNeg, Int.reduceAdd, Int.reduceMul, Nat.reduceMul, ms_n, ms_i, ms_l, ms_p, PX, fxX hF']
        rw [if_pos (by omega)]
        refine cal_of rfl (x_isSign hF' hT' (by unfold sgn; omega) x (fun hi q1 q3 => ?_) (fun hi42 => ?_))
        · simp (decide := true) only [RR, ms_app, toList_some, toList_none, if_true, if_false, true_and, and_true, cond_true, sm0, sm1, sm1l, sm2, lc_lt, lc_gt, lc_eq, Int.toNat_natCast, Int.reduceToNat, Nat.reduceAdd, Nat.reduceEqDiff, Int.reduceLT, Int.reduceEq, Int.reduceNeg, Int.reduceAdd, Int.reduceMul, Nat.reduceMul, ms_n, ms_i, ms_l, ms_p, PX]
          refine At.blk rfl rfl rfl fun sx => ?_
          simp (decide := true) only [RR, ms_app, toList_some, toList_none, if_true, if_false, true_and, and_true, cond_true, sm0, sm1, sm1l, sm2, lc_lt, lc_gt, lc_eq, Int.toNat_natCast, Int.reduceToNat, Nat.reduceAdd, Nat.reduceEqDiff, Int.reduceLT, Int.reduceEq, Int.reduceNeg, Int.reduceAdd, Int.reduceMul, Nat.reduceMul, ms_n, ms_i, ms_l, ms_p, PX, fxX hF']
          refine cal_of rfl (x_isSign hF' hT' (by unfold sgn; omega) x (fun hi q1 q3 => ?_) (fun hi2 => absurd hi hi2))
          simp (decide := true) only [RR, ms_app, toList_some, toList_none, if_true, if_false, true_and, and_true, cond_true, sm0, sm1, sm1l, sm2, lc_lt, lc_gt, lc_eq, Int.toNat_natCast, Int.reduceToNat, Nat.reduceAdd, Nat.reduceEqDiff, Int.reduceLT, Int.reduceEq, Int.reduceNeg, Int.reduceAdd, Int.reduceMul, Nat.reduceMul, ms_n, ms_i, ms_l, ms_p, PX]
          exact three 42 3 14 (Or.inl ⟨rfl, rfl, rfl⟩) hi q1 q3
        · simp (decide := true) only [RR, ms_app, toList_some, toList_none, if_true, if_false, true_and, and_true, cond_true, sm0, sm1, sm1l, sm2, lc_lt, lc_gt, lc_eq, Int.toNat_natCast, Int.reduceToNat, Nat.reduceAdd, Nat.reduceEqDiff, Int.reduceLT, Int.reduceEq, Int.reduceNeg, Int.reduceAdd, Int.reduceMul, Nat.reduceMul, ms_n, ms_i, ms_l, ms_p, PX, fxX hF']
          refine cal_of rfl (x_isSign hF' hT' (by unfold sgn; omega) x (fun hi q1 q3 => ?_) (fun hi47 => ?_))
          · simp (decide := true) only [RR, ms_app, toList_some, toList_none, if_true, if_false, true_and, and_true, cond_true, sm0, sm1, sm1l, sm2, lc_lt, lc_gt, lc_eq, Int.toNat_natCast, Int.reduceToNat, Nat.reduceAdd, Nat.reduceEqDiff, Int.reduceLT, Int.reduceEq, Int.reduceNeg, Int.reduceAdd, Int.reduceMul, Nat.reduceMul, ms_n, ms_i, ms_l, ms_p, PX]
            refine At.blk rfl rfl rfl fun sx => ?_
            simp (decide := true) only [RR, ms_app, toList_some, toList_none, if_true, if_false, true_and, and_true, cond_true, sm0, sm1, sm1l, sm2, lc_lt, lc_gt, lc_eq, Int.toNat_natCast, Int.reduceToNat, Nat.reduceAdd, Nat.reduceEqDiff, Int.reduceLT, Int.reduceEq, Int.reduceNeg, Int.reduceAdd, Int.reduceMul, Nat.reduceMul, ms_n, ms_i, ms_l, ms_p, PX, fxX hF']
            refine cal_of rfl (x_isSign hF' hT' (by unfold sgn; omega) x (fun hi2 _ _ => absurd hi2 hi42) (fun hi2 => ?_))
            simp (decide := true) only [RR, ms_app, toList_some, toList_none, if_true, if_false, true_and, and_true, cond_true, sm0, sm1, sm1l, sm2, lc_lt, lc_gt, lc_eq, Int.toNat_natCast, Int.reduceToNat, Nat.reduceAdd, Nat.reduceEqDiff, Int.reduceLT, Int.reduceEq, Int.reduceNeg, Int.reduceAdd, Int.reduceMul, Nat.reduceMul, ms_n, ms_i, ms_l, ms_p, PX]
            refine At.blk rfl rfl rfl fun sx => ?_
            simp (decide := true) only [RR, ms_app, toList_some, toList_none, if_true, if_false, true_and, and_true, cond_true, sm0, sm1, sm1l, sm2, lc_lt, lc_gt, lc_eq, Int.toNat_natCast, Int.reduceToNat, Nat.reduceAdd, Nat.reduceEqDiff, Int.reduceLT, Int.reduceEq, Int.reduceNeg, Int.reduceAdd, Int.reduceMul, Nat.reduceMul, ms_n, ms_i, ms_l, ms_p, PX]
            exact three 47 4 15 (Or.inr ⟨rfl, rfl, rfl⟩) hi q1 q3
          · simp (decide := true) only [RR, ms_app, toList_some, toList_none, if_true, if_false, true_and, and_true, cond_true, sm0, sm1, sm1l, sm2, lc_lt, lc_gt, lc_eq, Int.toNat_natCast, Int.reduceToNat, Nat.reduceAdd, Nat.reduceEqDiff, Int.reduceLT, Int.reduceEq, Int.reduceNeg, Int.reduceAdd, Int.reduceMul, Nat.reduceMul, ms_n, ms_i, ms_l, ms_p, PX]
            refine At.blk rfl rfl rfl fun sx => ?_
            simp (decide := true) only [RR, ms_app, toList_some, toList_none, if_true, if_false, true_and, and_true, cond_true, sm0, sm1, sm1l, sm2, lc_lt, lc_gt, lc_eq, Int.toNat_natCast, Int.reduceToNat, Nat.reduceAdd, Nat.reduceEqDiff, Int.reduceLT, Int.reduceEq, Int.reduceNeg, Int.reduceAdd, Int.reduceMul, Nat.reduceMul, ms_n, ms_i, ms_l, ms_p, PX]
            exact hK1 σ' s' g' cs f x (by omega) hc a ⟨ty, cd, sp, hi42, hi47⟩
    exact loop (N - s1) 0 σ1 s1 g1 cs none rfl (by omega) f1 x1 hc1 a1 (ty1.mono (by omega)) cd1 sp1
  · simp (decide := true) only [RR, ms_app, toList_some, toList_none, if_true, if_false, true_and, and_true, cond_true, sm0, sm1, sm1l, sm2, lc_lt, lc_gt, lc_eq, Int.toNat_natCast, Int.reduceToNat, Nat.reduceAdd, Nat.reduceEqDiff, Int.reduceLT, Int.reduceEq, Int.reduceNeg, Int.reduceAdd, Int.reduceMul, Nat.reduceMul, ms_n, ms_i, ms_l, ms_p, PX]
    refine hK0 σ1 k p f1 e1 e2 ⟨hB.1, fun d was K σ rc up dn q cx hq => ?_⟩
    exact hB.2 d was K σ rc up dn q hq
theorem XP.sum (h : XP N t sc tk o) (ho : o ≤ 6) : XS N t sc tk o := by
  intro D σ K s g L hD hF hT hX hL hLN h5 hK1 hK0
  unfold dS at hD
  obtain ⟨d, rfl⟩ : ∃ d, D = d + 4 := ⟨D - 4, by omega⟩
  have n16 := hT.2.1
  have sN := hX.le
  refine Mt.go (lv := [some (.inr (.inr 19)), some (.inl (o : Int)), none, none]) rfl rfl rfl ?_
  refine At.blk rfl rfl rfl fun sx => ?_
  simp (decide := true) only [RR, ms_app, toList_some, toList_none, if_true, if_false, true_and, and_true, cond_true, sm0, sm1, sm1l, sm2, lc_lt, lc_gt, lc_eq, Int.toNat_natCast, Int.reduceToNat, Nat.reduceAdd, Nat.reduceEqDiff, Int.reduceLT, Int.reduceEq, Int.reduceNeg, Int.reduceAdd, Int.reduceMul, Nat.reduceMul, ms_n, ms_i, ms_l, ms_p, PX]
  refine cal_of rfl (h (d + 3) σ _ s g L (by unfold dP; omega) hF hT hX hL hLN h5 (fun σ1 s1 g1 cs f1 x1 hs1 hc1 a1 hA => ?_) (fun σ1 k p f1 e1 e2 hB => ?_))
  · obtain ⟨ty1, cd1, sf1, nm1, nd1⟩ := hA
    simp (decide := true) only [RR, ms_app, toList_some, toList_none, if_true, if_false, true_and, and_true, cond_true, sm0, sm1, sm1l, sm2, lc_lt, lc_gt, lc_eq, Int.toNat_natCast, Int.reduceToNat, Nat.reduceAdd, Nat.reduceEqDiff, Int.reduceLT, Int.reduceEq, Int.reduceNeg, Int.reduceAdd, Int.reduceMul, Nat.reduceMul, ms_n, ms_i, ms_l, ms_p, PX]
    refine At.blk rfl rfl rfl fun sx => ?_
    simp (decide := true) only [RR, ms_app, toList_some, toList_none, if_true, if_false, true_and, and_true, cond_true, sm0, sm1, sm1l, sm2, lc_lt, lc_gt, lc_eq, Int.toNat_natCast, Int.reduceToNat, Nat.reduceAdd, Nat.reduceEqDiff, Int.reduceLT, Int.reduceEq, Int.reduceNeg, Int.reduceAdd, Int.reduceMul, Nat.reduceMul, ms_n, ms_i, ms_l, ms_p, PX]
    have sp1 : SSok N t tk o s g s1 g1 cs := by
      intro d was K σ rc up dn q cx hfin
      refine sf1 d was K σ rc up dn q ⟨⟨fun e => cx.1 (by omega), fun e => cx.1 (by omega)⟩, cx.2⟩ (fun σ' rc' p q' e' hp f' => ?_)
      exact hfin σ' rc' p q' e' (fun y hy => by have := hp y hy; omega) f'
    have loop : ∀ (m : Nat) (k : Nat) (σ' : mM) (s' : Nat) (g' : Bool) (cs : List Int) (o3 : Option mV), N - s' = m → k + s < s' → Fr xqL xqT σ σ' → TX σ' N t s' g' → cs.length ≤ s' - s → ApX L σ σ' cs → TyS false (21 - 3 * o) cs → ¬IsSg N t s' 42 → ¬IsSg N t s' 47 → CdS tk cs → SSok N t tk o s g s' g' cs → At (d + 3) 56 2 [some (.inr (.inr 19)), some (.inl (o : Int)), some (.inl (k : Int)), o3] [] σ' K := by
      intro m
      induction m using Nat.strongRecOn with
      | ind m ih =>
        intro k σ' s' g' cs o3 hm hk f x hc a ty n42 n47 cd sp
        have hF' := hF.fr f rfl
        have hT' : TxX σ' N t := hT.cg (f 1 1 rfl) (f.row 2 rfl)
        have s'N := x.le
        have three : ∀ (c v st : Int), (c = 43 ∧ v = 1 ∧ st = 12 ∨ c = 45 ∧ v = 2 ∧ st = 13) → IsSg N t s' c → σ' 20 1 = 3 → σ' 20 3 = ((s' + 1 : Nat) : Int) → At (d + 3) 56 5 [some (.inr (.inr 19)), some (.inl (o : Int)), some (.inl (k : Int)), o3] [.inl st] σ' K := by
          intro c v st hcv hi q1 q3
          have hi1 := hi.1
          refine At.blk rfl rfl rfl fun sx => ?_
          simp (decide := true) only [RR, ms_app, toList_some, toList_none, if_true, if_false, true_and, and_true, cond_true, sm0, sm1, sm1l, sm2, lc_lt, lc_gt, lc_eq, Int.toNat_natCast, Int.reduceToNat, Nat.reduceAdd, Nat.reduceEqDiff, Int.reduceLT, Int.reduceEq, Int.reduceNeg, Int.reduceAdd, Int.reduceMul, Nat.reduceMul, ms_n, ms_i, ms_l, ms_p, PX, fxX hF']
          refine cal_of rfl (x_next hF' hT' q1 q3 (by omega) (fun σ2 s2 f2 k2 x2 => ?_))
          rw [decide_eq_false (by omega)] at x2
          have k21 := k2.1
          have F2 : Fr xqL xqT σ σ2 := f.trans f2.tkq
          have hF2 := hF.fr F2 rfl
          have hT2 : TxX σ2 N t := hT.cg (F2 1 1 rfl) (F2.row 2 rfl)
          have a2 : ApX L σ σ2 cs := a.mv (f2.mono rfl)
          have h52 : σ2 19 5 = sc := (F2 19 5 rfl).trans h5
          simp (decide := true) only [RR, ms_app, toList_some, toList_none, if_true, if_false, true_and, and_true, cond_true, sm0, sm1, sm1l, sm2, lc_lt, lc_gt, lc_eq, Int.toNat_natCast, Int.reduceToNat, Nat.reduceAdd, Nat.reduceEqDiff, Int.reduceLT, Int.reduceEq, Int.reduceNeg, Int.reduceAdd, Int.reduceMul, Nat.reduceMul, ms_n, ms_i, ms_l, ms_p, PX]
          refine cal_of rfl (h (d + 3) σ2 _ s2 false (L + cs.length) (by unfold dP; omega) hF2 hT2 x2 a2.1 (by omega) h52 (fun σ3 s3 g3 cs3 f3 x3 hs3 hc3 a3 hA3 => ?_) (fun σ3 kk pp f3 e3 e4 hB3 => ?_))
          · obtain ⟨ty3, cd3, sf3, nm3, nd3⟩ := hA3
            have F3 := F2.trans f3
            have hF3 := hF.fr F3 rfl
            have A3 := a2.trans a3
            have s3N := x3.le
            have w1 : Unit → w32 ((k : Int) + 1) = ((k + 1 : Nat) : Int) := fun _ => by rw [w32_small (by omega) (by omega)]; omega
            have st32 : i_or (i_shl 0 5) st = st := by
              rcases hcv with ⟨_, _, rfl⟩ | ⟨_, _, rfl⟩
              · exact step_op 12 (by decide)
              · exact step_op 13 (by decide)
            have hst : StepR st v := by
              refine Or.inr (Or.inr (Or.inr (Or.inr (Or.inr ⟨st, by omega, rfl, by omega⟩))))
            simp (decide := true) only [RR, ms_app, toList_some, toList_none, if_true, if_false, true_and, and_true, cond_true, sm0, sm1, sm1l, sm2, lc_lt, lc_gt, lc_eq, Int.toNat_natCast, Int.reduceToNat, Nat.reduceAdd, Nat.reduceEqDiff, Int.reduceLT, Int.reduceEq, Int.reduceNeg, Int.reduceAdd, Int.reduceMul, Nat.reduceMul, ms_n, ms_i, ms_l, ms_p, PX]
            refine At.blk rfl rfl rfl fun sx => ?_
            simp (decide := true) only [RR, ms_app, toList_some, toList_none, if_true, if_false, true_and, and_true, cond_true, sm0, sm1, sm1l, sm2, lc_lt, lc_gt, lc_eq, Int.toNat_natCast, Int.reduceToNat, Nat.reduceAdd, Nat.reduceEqDiff, Int.reduceLT, Int.reduceEq, Int.reduceNeg, Int.reduceAdd, Int.reduceMul, Nat.reduceMul, ms_n, ms_i, ms_l, ms_p, PX, fxX hF3]
            refine cal_of rfl (x_addStep (L := L + (cs ++ cs3).length) hF3 A3.1 (by rw [List.length_append]; omega) st32 ?_)
            simp (decide := true) only [RR, ms_app, toList_some, toList_none, if_true, if_false, true_and, and_true, cond_true, sm0, sm1, sm1l, sm2, lc_lt, lc_gt, lc_eq, Int.toNat_natCast, Int.reduceToNat, Nat.reduceAdd, Nat.reduceEqDiff, Int.reduceLT, Int.reduceEq, Int.reduceNeg, Int.reduceAdd, Int.reduceMul, Nat.reduceMul, ms_n, ms_i, ms_l, ms_p, PX, w1 ()]
            have F4 : Fr xqL xqT σ (mj_set (mj_set σ3 16 (L + (cs ++ cs3).length) st) 15 3 ((L + (cs ++ cs3).length + 1 : Nat) : Int)) := (F3.setr rfl).set rfl
            refine ih (N - s3) (by omega) (k + 1) _ s3 g3 (cs ++ cs3 ++ [v]) _ rfl (by omega) F4 (x3.cg rfl) (by simp only [List.length_append, List.length_singleton]; omega) (A3.push hst) ?_ nm3 nd3 ?_ ?_
            · exact ty.lop ty3 (by omega) (tyC_op (v := v) (by omega))
            · refine (cd.app cd3).app (fun c hc => ?_)
              rw [List.mem_singleton] at hc
              exact Or.inr (Or.inr (Or.inl (by omega)))
            · intro d was K σ rc up dn q cx hfin
              refine sp d was K σ rc up dn q cx (fun σa rca pa qa ea ha fa => ?_)
              refine QG_add (c := c) (v := v) (by omega) ha cx.1 qa hi (fun σb sb qb kb fb => ?_)
              obtain rfl := k2.uniq kb
              refine sf3 d was K σb _ _ dn qb ⟨⟨by show v ≠ 3; omega, by show v ≠ 4; omega⟩, fun x l e => by injection e with e1 e2; omega⟩ (fun σc rcc pc qc ec hc fc => ?_)
              refine hfin σc rcc (pc ++ [v]) (by rw [List.append_assoc]; exact qc) ?_ (fun y hy => ?_) ((fa.trans fb).trans fc)
              · rw [List.reverse_append]
                show [v] ++ pc.reverse ++ rcc = _
                rw [List.append_assoc, ec, ea]
                simp [List.append_assoc]
              · rcases List.mem_append.mp hy with hy | hy
                · have := hc y hy; omega
                · rw [List.mem_singleton] at hy; omega
          · simp (decide := true) only [RR, ms_app, toList_some, toList_none, if_true, if_false, true_and, and_true, cond_true, sm0, sm1, sm1l, sm2, lc_lt, lc_gt, lc_eq, Int.toNat_natCast, Int.reduceToNat, Nat.reduceAdd, Nat.reduceEqDiff, Int.reduceLT, Int.reduceEq, Int.reduceNeg, Int.reduceAdd, Int.reduceMul, Nat.reduceMul, ms_n, ms_i, ms_l, ms_p, PX]
            refine hK0 σ3 kk pp (F2.trans f3) e3 e4 ⟨hB3.1, fun d was K σ rc up dn q cx hq => ?_⟩
            refine sp d was K σ rc up dn q cx (fun σa rca pa qa ea ha fa => ?_)
            refine QG_add (c := c) (v := v) (by omega) ha cx.1 qa hi (fun σb sb qb kb fb => ?_)
            obtain rfl := k2.uniq kb
            exact hB3.2 d was K σb _ _ dn qb ⟨⟨by show v ≠ 3; omega, by show v ≠ 4; omega⟩, fun x l e => by injection e with e1 e2; omega⟩ (hq.go (fa.trans fb))
        refine At.blk rfl rfl rfl fun sx => ?_
        simp (decide := true) only [RR, ms_app, toList_some, toList_none, if_true, if_false, true_and, and_true, cond_true, sm0, sm1, sm1l, sm2, lc_lt, lc_gt, lc_eq, Int.toNat_natCast, Int.reduceToNat, Nat.reduceAdd, Nat.reduceEqDiff, Int.reduceLT, Int.reduceEq, Int.reduceNeg, Int.reduceAdd, Int.reduceMul, Nat.reduceMul, ms_n, ms_i, ms_l, ms_p, PX, fxX hF']
        rw [if_pos (by omega)]
        refine cal_of rfl (x_isSign hF' hT' (by unfold sgn; omega) x (fun hi q1 q3 => ?_) (fun hi43 => ?_))
        · simp (decide := true) only [RR, ms_app, toList_some, toList_none, if_true, if_false, true_and, and_true, cond_true, sm0, sm1, sm1l, sm2, lc_lt, lc_gt, lc_eq, Int.toNat_natCast, Int.reduceToNat, Nat.reduceAdd, Nat.reduceEqDiff, Int.reduceLT, Int.reduceEq, Int.reduceNeg, Int.reduceAdd, Int.reduceMul, Nat.reduceMul, ms_n, ms_i, ms_l, ms_p, PX]
          refine At.blk rfl rfl rfl fun sx => ?_
          simp (decide := true) only [RR, ms_app, toList_some, toList_none, if_true, if_false, true_and, and_true, cond_true, sm0, sm1, sm1l, sm2, lc_lt, lc_gt, lc_eq, Int.toNat_natCast, Int.reduceToNat, Nat.reduceAdd, Nat.reduceEqDiff, Int.reduceLT, Int.reduceEq, Int.reduceNeg, Int.reduceAdd, Int.reduceMul, Nat.reduceMul, ms_n, ms_i, ms_l, ms_p, PX, fxX hF']
          refine cal_of rfl (x_isSign hF' hT' (by unfold sgn; omega) x (fun hi q1 q3 => ?_) (fun hi2 => absurd hi hi2))
          simp (decide := true) only [RR, ms_app, toList_some, toList_none, if_true, if_false, true_and, and_true, cond_true, sm0, sm1, sm1l, sm2, lc_lt, lc_gt, lc_eq, Int.toNat_natCast, Int.reduceToNat, Nat.reduceAdd, Nat.reduceEqDiff, Int.reduceLT, Int.reduceEq, Int.reduceNeg, Int.reduceAdd, Int.reduceMul, Nat.reduceMul, ms_n, ms_i, ms_l, ms_p, PX]
          exact three 43 1 12 (Or.inl ⟨rfl, rfl, rfl⟩) hi q1 q3
        · simp (decide := true) only [RR, ms_app, toList_some, toList_none, if_true, if_false, true_and, and_true, cond_true, sm0, sm1, sm1l, sm2, lc_lt, lc_gt, lc_eq, Int.toNat_natCast, Int.reduceToNat, Nat.reduceAdd, Nat.reduceEqDiff, Int.reduceLT, Int.reduceEq, Int.reduceNeg, Int.reduceAdd, Int.reduceMul, Nat.reduceMul, ms_n, ms_i, ms_l, ms_p, PX, fxX hF']
          refine cal_of rfl (x_isSign hF' hT' (by unfold sgn; omega) x (fun hi q1 q3 => ?_) (fun hi45 => ?_))
          · simp (decide := true) only [RR, ms_app, toList_some, toList_none, if_true, if_false, true_and, and_true, cond_true, sm0, sm1, sm1l, sm2, lc_lt, lc_gt, lc_eq, Int.toNat_natCast, Int.reduceToNat, Nat.reduceAdd, Nat.reduceEqDiff, Int.reduceLT, Int.reduceEq, Int.reduceNeg, Int.reduceAdd, Int.reduceMul, Nat.reduceMul, ms_n, ms_i, ms_l, ms_p, PX]
            refine At.blk rfl rfl rfl fun sx => ?_
            simp (decide := true) only [RR, ms_app, toList_some, toList_none, if_true, if_false, true_and, and_true, cond_true, sm0, sm1, sm1l, sm2, lc_lt, lc_gt, lc_eq, Int.toNat_natCast, Int.reduceToNat, Nat.reduceAdd, Nat.reduceEqDiff, Int.reduceLT, Int.reduceEq, Int.reduceNeg, Int.reduceAdd, Int.reduceMul, Nat.reduceMul, ms_n, ms_i, ms_l, ms_p, PX, fxX hF']
            refine cal_of rfl (x_isSign hF' hT' (by unfold sgn; omega) x (fun hi2 _ _ => absurd hi2 hi43) (fun hi2 => ?_))
            simp (decide := true) only [RR, ms_app, toList_some, toList_none, if_true, if_false, true_and, and_true, cond_true, sm0, sm1, sm1l, sm2, lc_lt, lc_gt, lc_eq, Int.toNat_natCast, Int.reduceToNat, Nat.reduceAdd, Nat.reduceEqDiff, Int.reduceLT, Int.reduceEq, Int.reduceNeg, Int.reduceAdd, Int.reduceMul, Nat.reduceMul, ms_n, ms_i, ms_l, ms_p, PX]
            refine At.blk rfl rfl rfl fun sx => ?_
            simp (decide := true) only [RR, ms_app, toList_some, toList_none, if_true, if_false, true_and, and_true, cond_true, sm0, sm1, sm1l, sm2, lc_lt, lc_gt, lc_eq, Int.toNat_natCast, Int.reduceToNat, Nat.reduceAdd, Nat.reduceEqDiff, Int.reduceLT, Int.reduceEq, Int.reduceNeg, Int.reduceAdd, Int.reduceMul, Nat.reduceMul, ms_n, ms_i, ms_l, ms_p, PX]
            exact three 45 2 13 (Or.inr ⟨rfl, rfl, rfl⟩) hi q1 q3
          · simp (decide := true) only [RR, ms_app, toList_some, toList_none, if_true, if_false, true_and, and_true, cond_true, sm0, sm1, sm1l, sm2, lc_lt, lc_gt, lc_eq, Int.toNat_natCast, Int.reduceToNat, Nat.reduceAdd, Nat.reduceEqDiff, Int.reduceLT, Int.reduceEq, Int.reduceNeg, Int.reduceAdd, Int.reduceMul, Nat.reduceMul, ms_n, ms_i, ms_l, ms_p, PX]
            refine At.blk rfl rfl rfl fun sx => ?_
            simp (decide := true) only [RR, ms_app, toList_some, toList_none, if_true, if_false, true_and, and_true, cond_true, sm0, sm1, sm1l, sm2, lc_lt, lc_gt, lc_eq, Int.toNat_natCast, Int.reduceToNat, Nat.reduceAdd, Nat.reduceEqDiff, Int.reduceLT, Int.reduceEq, Int.reduceNeg, Int.reduceAdd, Int.reduceMul, Nat.reduceMul, ms_n, ms_i, ms_l, ms_p, PX]
            exact hK1 σ' s' g' cs f x (by omega) hc a ⟨ty, cd, sp, n42, n47, hi43, hi45⟩
    exact loop (N - s1) 0 σ1 s1 g1 cs none rfl (by omega) f1 x1 hc1 a1 (ty1.mono (by omega)) nm1 nd1 cd1 sp1
  · simp (decide := true) only [RR, ms_app, toList_some, toList_none, if_true, if_false, true_and, and_true, cond_true, sm0, sm1, sm1l, sm2, lc_lt, lc_gt, lc_eq, Int.toNat_natCast, Int.reduceToNat, Nat.reduceAdd, Nat.reduceEqDiff, Int.reduceLT, Int.reduceEq, Int.reduceNeg, Int.reduceAdd, Int.reduceMul, Nat.reduceMul, ms_n, ms_i, ms_l, ms_p, PX]
    refine hK0 σ1 k p f1 e1 e2 ⟨hB.1, fun d was K σ rc up dn q cx hq => ?_⟩
    exact hB.2 d was K σ rc up dn q ⟨⟨fun e => cx.1 (by omega), fun e => cx.1 (by omega)⟩, cx.2⟩ hq
end
