section
variable {d : Nat} {σ σ0 : mM} {K : Option mV → mM → Prop} {N : Nat} {t : Nat → Int}
theorem x_next {kd0 : Int} {e0 : Nat} (hF : Fix σ) (hT : TxX σ N t) (h1 : σ 20 1 = kd0) (h3 : σ 20 3 = (e0 : Int)) (he : e0 ≤ N) (hK : ∀ σ' s', Fr [] tkL σ σ' → Skp N t e0 s' → TX σ' N t s' (decide ((kd0 = 1 ∨ kd0 = 2) ∧ s' = e0)) → K none σ') : Mt (d + 2) 84 [.inr (.inr 20)] σ K := by
  refine Mt.go (lv := [some (.inr (.inr 20)), none, none]) rfl rfl rfl ?_
  have n16 := hT.2.1
  -- at the end: glued or not
  have eight : ∀ (so : Int) (σ' : mM) (s' e : Nat) (v : Int), (so = 1 ∧ (kd0 = 1 ∨ kd0 = 2) ∨ so = 0 ∧ ¬(kd0 = 1 ∨ kd0 = 2)) → Fr [] tkL σ σ' → Skp N t e0 s' → σ' 20 1 = v → σ' 20 2 = (s' : Int) → σ' 20 3 = (e : Int) → Tok N t s' false e v → (v = 1 → WdR t s' e (σ' 20 4)) → (v = 2 → σ' 20 5 = numV t s' (min 4 (e - s'))) → At (d + 1) 84 8 [some (.inr (.inr 20)), some (.inl so), some (.inl (e0 : Int))] [] σ' K := by
    intro so σ' s' e v hso fr hsk q1 q2 q3 hTok hW hN
    have fin : (decide ((kd0 = 1 ∨ kd0 = 2) ∧ s' = e0) = false ∨ ¬(v = 1 ∨ v = 2)) → At (d + 1) 84 9 [some (.inr (.inr 20)), some (.inl so), some (.inl (e0 : Int))] [] σ' K := by
      intro hh
      refine At.blk rfl rfl rfl fun sx => ?_
      simp (decide := true) only [RR, ms_app, toList_some, toList_none, if_true, if_false, true_and, and_true, cond_true, sm0, sm1, sm1l, sm2, lc_lt, lc_gt, lc_eq, Int.toNat_natCast, Int.reduceToNat, Nat.reduceAdd, Nat.reduceEqDiff, Int.reduceLT, Int.reduceEq, Int.reduceNeg, Int.reduceAdd, Int.reduceMul, Nat.reduceMul, ms_n, ms_i, ms_l, ms_p, PX]
      refine hK σ' s' fr hsk ⟨e, v, q1, q2, q3, ?_, hW, hN⟩
      rcases hh with hh | hh
      · rw [hh]; exact hTok
      · rcases hTok with h | ⟨a1, a2, ⟨b1, b2, b3⟩ | ⟨b1, b2, b3⟩ | h⟩
        · exact Or.inl h
        · exact absurd (Or.inl b3) hh
        · exact absurd (Or.inr b3) hh
        · exact Or.inr ⟨a1, a2, Or.inr (Or.inr h)⟩
    refine At.blk rfl rfl rfl fun sx => ?_
    simp (decide := true) only [RR, ms_app, toList_some, toList_none, if_true, if_false, true_and, and_true, cond_true, sm0, sm1, sm1l, sm2, lc_lt, lc_gt, lc_eq, Int.toNat_natCast, Int.reduceToNat, Nat.reduceAdd, Nat.reduceEqDiff, Int.reduceLT, Int.reduceEq, Int.reduceNeg, Int.reduceAdd, Int.reduceMul, Nat.reduceMul, ms_n, ms_i, ms_l, ms_p, PX]
    rcases hso with ⟨rfl, hso⟩ | ⟨rfl, hso⟩
    · first | rw [if_neg (by decide)] | skip
      refine cal_of rfl (x_isSolid (fun hs => ?_) (fun hs => ?_))
      · simp (decide := true) only [RR, ms_app, toList_some, toList_none, if_true, if_false, true_and, and_true, cond_true, sm0, sm1, sm1l, sm2, lc_lt, lc_gt, lc_eq, Int.toNat_natCast, Int.reduceToNat, Nat.reduceAdd, Nat.reduceEqDiff, Int.reduceLT, Int.reduceEq, Int.reduceNeg, Int.reduceAdd, Int.reduceMul, Nat.reduceMul, ms_n, ms_i, ms_l, ms_p, PX, q2]
        rw [q1] at hs
        by_cases c : (s' : Int) = (e0 : Int)
        · rw [if_pos c]
          have c2 : s' = e0 := by omega
          refine At.blk rfl rfl rfl fun sx => ?_
          simp (decide := true) only [RR, ms_app, toList_some, toList_none, if_true, if_false, true_and, and_true, cond_true, sm0, sm1, sm1l, sm2, lc_lt, lc_gt, lc_eq, Int.toNat_natCast, Int.reduceToNat, Nat.reduceAdd, Nat.reduceEqDiff, Int.reduceLT, Int.reduceEq, Int.reduceNeg, Int.reduceAdd, Int.reduceMul, Nat.reduceMul, ms_n, ms_i, ms_l, ms_p, PX]
          refine hK _ s' (fr.set rfl) hsk ⟨e, 5, rfl, q2, q3, ?_, fun h => absurd h (by decide), fun h => absurd h (by decide)⟩
          rw [decide_eq_true (show (kd0 = 1 ∨ kd0 = 2) ∧ s' = e0 from ⟨hso, c2⟩)]
          rcases hTok with ⟨a1, a2, a3⟩ | ⟨a1, a2, ⟨b1, b2, b3⟩ | ⟨b1, b2, b3⟩ | ⟨b1, b2, b3, b4⟩⟩
          · omega
          · exact Or.inr ⟨a1, a2, Or.inl ⟨b1, b2, rfl⟩⟩
          · exact Or.inr ⟨a1, a2, Or.inr (Or.inl ⟨b1, b2, rfl⟩)⟩
          · omega
        · rw [if_neg c]
          exact fin (Or.inl (decide_eq_false (fun h => c (by rw [h.2]))))
      · simp (decide := true) only [RR, ms_app, toList_some, toList_none, if_true, if_false, true_and, and_true, cond_true, sm0, sm1, sm1l, sm2, lc_lt, lc_gt, lc_eq, Int.toNat_natCast, Int.reduceToNat, Nat.reduceAdd, Nat.reduceEqDiff, Int.reduceLT, Int.reduceEq, Int.reduceNeg, Int.reduceAdd, Int.reduceMul, Nat.reduceMul, ms_n, ms_i, ms_l, ms_p, PX]
        rw [q1] at hs
        exact fin (Or.inr hs)
    · first | rw [if_pos rfl] | skip
      exact fin (Or.inl (decide_eq_false (fun h => hso h.1)))
  have six : ∀ (so : Int) (σ' : mM) (s' e : Nat) (v : Int), (so = 1 ∧ (kd0 = 1 ∨ kd0 = 2) ∨ so = 0 ∧ ¬(kd0 = 1 ∨ kd0 = 2)) → Fr [] tkL σ σ' → Skp N t e0 s' → σ' 20 1 = v → σ' 20 2 = (s' : Int) → σ' 20 3 = (e : Int) → Tok N t s' false e v → At (d + 1) 84 6 [some (.inr (.inr 20)), some (.inl so), some (.inl (e0 : Int))] [] σ' K := by
    intro so σ' s' e v hso fr hsk q1 q2 q3 hTok
    have hF' := hF.fr fr rfl
    have hT' : TxX σ' N t := hT.cg (fr 1 1 rfl) (fr.row 2 rfl)
    refine At.blk rfl rfl rfl fun sx => ?_
    simp (decide := true) only [RR, ms_app, toList_some, toList_none, if_true, if_false, true_and, and_true, cond_true, sm0, sm1, sm1l, sm2, lc_lt, lc_gt, lc_eq, Int.toNat_natCast, Int.reduceToNat, Nat.reduceAdd, Nat.reduceEqDiff, Int.reduceLT, Int.reduceEq, Int.reduceNeg, Int.reduceAdd, Int.reduceMul, Nat.reduceMul, ms_n, ms_i, ms_l, ms_p, PX, q1]
    by_cases c1 : v = 1
    · rw [if_pos c1]
      have hr : RunP ltr N t s' e := by
        rcases hTok with ⟨a1, a2, a3⟩ | ⟨a1, a2, ⟨b1, b2, b3⟩ | ⟨b1, b2, b3⟩ | ⟨b1, b2, b3, b4⟩⟩
        · omega
        · exact b2
        · rw [if_neg (by decide)] at b3; omega
        · omega
      refine cal_of rfl (x_findWord hF' hT' q2 q3 hr (fun u hu => ?_))
      simp (decide := true) only [RR, ms_app, toList_some, toList_none, if_true, if_false, true_and, and_true, cond_true, sm0, sm1, sm1l, sm2, lc_lt, lc_gt, lc_eq, Int.toNat_natCast, Int.reduceToNat, Nat.reduceAdd, Nat.reduceEqDiff, Int.reduceLT, Int.reduceEq, Int.reduceNeg, Int.reduceAdd, Int.reduceMul, Nat.reduceMul, ms_n, ms_i, ms_l, ms_p, PX]
      exact eight so _ s' e v hso (fr.set rfl) hsk q1 q2 q3 hTok (fun _ => hu) (fun h => by omega)
    · rw [if_neg c1]
      refine At.blk rfl rfl rfl fun sx => ?_
      simp (decide := true) only [RR, ms_app, toList_some, toList_none, if_true, if_false, true_and, and_true, cond_true, sm0, sm1, sm1l, sm2, lc_lt, lc_gt, lc_eq, Int.toNat_natCast, Int.reduceToNat, Nat.reduceAdd, Nat.reduceEqDiff, Int.reduceLT, Int.reduceEq, Int.reduceNeg, Int.reduceAdd, Int.reduceMul, Nat.reduceMul, ms_n, ms_i, ms_l, ms_p, PX, q1]
      by_cases c2 : v = 2
      · rw [if_pos c2]
        have hr : RunP dgt N t s' e := by
          rcases hTok with ⟨a1, a2, a3⟩ | ⟨a1, a2, ⟨b1, b2, b3⟩ | ⟨b1, b2, b3⟩ | ⟨b1, b2, b3, b4⟩⟩
          · omega
          · rw [if_neg (by decide)] at b3; omega
          · exact b2
          · omega
        refine cal_of rfl (x_findNumber hF' hT' q2 q3 hr ?_)
        simp (decide := true) only [RR, ms_app, toList_some, toList_none, if_true, if_false, true_and, and_true, cond_true, sm0, sm1, sm1l, sm2, lc_lt, lc_gt, lc_eq, Int.toNat_natCast, Int.reduceToNat, Nat.reduceAdd, Nat.reduceEqDiff, Int.reduceLT, Int.reduceEq, Int.reduceNeg, Int.reduceAdd, Int.reduceMul, Nat.reduceMul, ms_n, ms_i, ms_l, ms_p, PX]
        exact eight so _ s' e v hso (fr.set rfl) hsk q1 q2 q3 hTok (fun h => by omega) (fun _ => rfl)
      · rw [if_neg c2]
        exact eight so σ' s' e v hso fr hsk q1 q2 q3 hTok (fun h => absurd h c1) (fun h => absurd h c2)
  have five : ∀ (P : Int → Prop) (v : Int), (v = 1 ∧ P = ltr ∨ v = 2 ∧ P = dgt) → ∀ (so : Int) (s' : Nat), (so = 1 ∧ (kd0 = 1 ∨ kd0 = 2) ∨ so = 0 ∧ ¬(kd0 = 1 ∨ kd0 = 2)) → Skp N t e0 s' → s' < N → ¬blk (t s') → P (t s') → ∀ m i : Nat, N - i = m → i ≤ N → s' < i → (∀ k, s' ≤ k → k < i → P (t k)) → ∀ σ', Fr [] tkL σ σ' → σ' 20 1 = v → σ' 20 2 = (s' : Int) → σ' 20 3 = (i : Int) → At (d + 1) 84 5 [some (.inr (.inr 20)), some (.inl so), some (.inl (e0 : Int))] [] σ' K := by
    intro P v hP so s' hso hsk hsN hnb hp0 m
    have hfin : ∀ (σ' : mM) (i : Nat), RunP P N t s' i → Fr [] tkL σ σ' → σ' 20 1 = v → σ' 20 2 = (s' : Int) → σ' 20 3 = (i : Int) → At (d + 1) 84 6 [some (.inr (.inr 20)), some (.inl so), some (.inl (e0 : Int))] [] σ' K := by
      intro σ' i hr fr q1 q2 q3
      refine six so σ' s' i v hso fr hsk q1 q2 q3 (Or.inr ⟨hsN, hnb, ?_⟩)
      rcases hP with ⟨rfl, rfl⟩ | ⟨rfl, rfl⟩
      · exact Or.inl ⟨hp0, hr, rfl⟩
      · exact Or.inr (Or.inl ⟨hp0, hr, rfl⟩)
    induction m with
    | zero =>
      intro i hi hi2 hi3 hq σ' fr q1 q2 q3
      obtain rfl : i = N := by omega
      have hF' := hF.fr fr rfl
      have e11 : σ' 1 1 = (i : Int) := (fr 1 1 rfl).trans hT.1
      refine At.blk rfl rfl rfl fun sx => ?_
      simp (decide := true) only [RR, ms_app, toList_some, toList_none, if_true, if_false, true_and, and_true, cond_true, sm0, sm1, sm1l, sm2, lc_lt, lc_gt, lc_eq, Int.toNat_natCast, Int.reduceToNat, Nat.reduceAdd, Nat.reduceEqDiff, Int.reduceLT, Int.reduceEq, Int.reduceNeg, Int.reduceAdd, Int.reduceMul, Nat.reduceMul, ms_n, ms_i, ms_l, ms_p, PX]
      refine cal_of rfl (x_isSolid (fun hs => ?_) (fun hs => by rw [q1] at hs; rcases hP with ⟨h, _⟩ | ⟨h, _⟩ <;> omega))
      simp (decide := true) only [RR, ms_app, toList_some, toList_none, if_true, if_false, true_and, and_true, cond_true, sm0, sm1, sm1l, sm2, lc_lt, lc_gt, lc_eq, Int.toNat_natCast, Int.reduceToNat, Nat.reduceAdd, Nat.reduceEqDiff, Int.reduceLT, Int.reduceEq, Int.reduceNeg, Int.reduceAdd, Int.reduceMul, Nat.reduceMul, ms_n, ms_i, ms_l, ms_p, PX, fxX hF', q3, e11]
      rw [if_neg (by omega)]
      exact hfin σ' i ⟨by omega, Nat.le_refl _, hq, fun h => absurd h (by omega)⟩ fr q1 q2 q3
    | succ m ih =>
      intro i hi hi2 hi3 hq σ' fr q1 q2 q3
      have hF' := hF.fr fr rfl
      have e11 : σ' 1 1 = (N : Int) := (fr 1 1 rfl).trans hT.1
      have et : σ' 2 i = t i := (fr 2 i rfl).trans (hT.2.2 i (by omega)).1
      have w1 : Unit → w32 ((i : Int) + 1) = ((i + 1 : Nat) : Int) := fun _ => by rw [w32_small (by omega) (by omega)]; omega
      have yes : P (t i) → At (d + 1) 84 5 [some (.inr (.inr 20)), some (.inl so), some (.inl (e0 : Int))] [] (mj_set σ' 20 3 ((i + 1 : Nat) : Int)) K := by
        intro hp
        refine ih (i + 1) (by omega) (by omega) (by omega) (fun k h1 h2 => ?_) _ (fr.set rfl) q1 q2 rfl
        by_cases e : k = i
        · rw [e]; exact hp
        · exact hq k h1 (by omega)
      have nay : ¬P (t i) → At (d + 1) 84 6 [some (.inr (.inr 20)), some (.inl so), some (.inl (e0 : Int))] [] σ' K := fun hp => hfin σ' i ⟨by omega, by omega, hq, fun _ => hp⟩ fr q1 q2 q3
      refine At.blk rfl rfl rfl fun sx => ?_
      simp (decide := true) only [RR, ms_app, toList_some, toList_none, if_true, if_false, true_and, and_true, cond_true, sm0, sm1, sm1l, sm2, lc_lt, lc_gt, lc_eq, Int.toNat_natCast, Int.reduceToNat, Nat.reduceAdd, Nat.reduceEqDiff, Int.reduceLT, Int.reduceEq, Int.reduceNeg, Int.reduceAdd, Int.reduceMul, Nat.reduceMul, ms_n, ms_i, ms_l, ms_p, PX]
      refine cal_of rfl (x_isSolid (fun hs => ?_) (fun hs => by rw [q1] at hs; rcases hP with ⟨h, _⟩ | ⟨h, _⟩ <;> omega))
      simp (decide := true) only [RR, ms_app, toList_some, toList_none, if_true, if_false, true_and, and_true, cond_true, sm0, sm1, sm1l, sm2, lc_lt, lc_gt, lc_eq, Int.toNat_natCast, Int.reduceToNat, Nat.reduceAdd, Nat.reduceEqDiff, Int.reduceLT, Int.reduceEq, Int.reduceNeg, Int.reduceAdd, Int.reduceMul, Nat.reduceMul, ms_n, ms_i, ms_l, ms_p, PX, fxX hF', q3, e11, et]
      rw [if_pos (by omega)]
      refine ⟨⟨by omega, by omega⟩, ?_⟩
      rcases hP with ⟨rfl, rfl⟩ | ⟨rfl, rfl⟩
      · refine cal_of rfl (x_kindOf (fun h => ?_) (fun h => ?_) (fun h => ?_) (fun ha hb hc => ?_))
        · simp (decide := true) only [RR, ms_app, toList_some, toList_none, if_true, if_false, true_and, and_true, cond_true, sm0, sm1, sm1l, sm2, lc_lt, lc_gt, lc_eq, Int.toNat_natCast, Int.reduceToNat, Nat.reduceAdd, Nat.reduceEqDiff, Int.reduceLT, Int.reduceEq, Int.reduceNeg, Int.reduceAdd, Int.reduceMul, Nat.reduceMul, ms_n, ms_i, ms_l, ms_p, PX, q1]
          exact nay (by unfold ltr; omega)
        · simp (decide := true) only [RR, ms_app, toList_some, toList_none, if_true, if_false, true_and, and_true, cond_true, sm0, sm1, sm1l, sm2, lc_lt, lc_gt, lc_eq, Int.toNat_natCast, Int.reduceToNat, Nat.reduceAdd, Nat.reduceEqDiff, Int.reduceLT, Int.reduceEq, Int.reduceNeg, Int.reduceAdd, Int.reduceMul, Nat.reduceMul, ms_n, ms_i, ms_l, ms_p, PX, q1, q3, w1 ()]
          exact yes h
        · simp (decide := true) only [RR, ms_app, toList_some, toList_none, if_true, if_false, true_and, and_true, cond_true, sm0, sm1, sm1l, sm2, lc_lt, lc_gt, lc_eq, Int.toNat_natCast, Int.reduceToNat, Nat.reduceAdd, Nat.reduceEqDiff, Int.reduceLT, Int.reduceEq, Int.reduceNeg, Int.reduceAdd, Int.reduceMul, Nat.reduceMul, ms_n, ms_i, ms_l, ms_p, PX, q1]
          exact nay (by unfold ltr; omega)
        · simp (decide := true) only [RR, ms_app, toList_some, toList_none, if_true, if_false, true_and, and_true, cond_true, sm0, sm1, sm1l, sm2, lc_lt, lc_gt, lc_eq, Int.toNat_natCast, Int.reduceToNat, Nat.reduceAdd, Nat.reduceEqDiff, Int.reduceLT, Int.reduceEq, Int.reduceNeg, Int.reduceAdd, Int.reduceMul, Nat.reduceMul, ms_n, ms_i, ms_l, ms_p, PX, q1]
          exact nay hb
      · refine cal_of rfl (x_kindOf (fun h => ?_) (fun h => ?_) (fun h => ?_) (fun ha hb hc => ?_))
        · simp (decide := true) only [RR, ms_app, toList_some, toList_none, if_true, if_false, true_and, and_true, cond_true, sm0, sm1, sm1l, sm2, lc_lt, lc_gt, lc_eq, Int.toNat_natCast, Int.reduceToNat, Nat.reduceAdd, Nat.reduceEqDiff, Int.reduceLT, Int.reduceEq, Int.reduceNeg, Int.reduceAdd, Int.reduceMul, Nat.reduceMul, ms_n, ms_i, ms_l, ms_p, PX, q1]
          exact nay (by unfold dgt; omega)
        · simp (decide := true) only [RR, ms_app, toList_some, toList_none, if_true, if_false, true_and, and_true, cond_true, sm0, sm1, sm1l, sm2, lc_lt, lc_gt, lc_eq, Int.toNat_natCast, Int.reduceToNat, Nat.reduceAdd, Nat.reduceEqDiff, Int.reduceLT, Int.reduceEq, Int.reduceNeg, Int.reduceAdd, Int.reduceMul, Nat.reduceMul, ms_n, ms_i, ms_l, ms_p, PX, q1]
          exact nay (by unfold dgt; omega)
        · simp (decide := true) only [RR, ms_app, toList_some, toList_none, if_true, if_false, true_and, and_true, cond_true, sm0, sm1, sm1l, sm2, lc_lt, lc_gt, lc_eq, Int.toNat_natCast, Int.reduceToNat, Nat.reduceAdd, Nat.reduceEqDiff, Int.reduceLT, Int.reduceEq, Int.reduceNeg, Int.reduceAdd, Int.reduceMul, Nat.reduceMul, ms_n, ms_i, ms_l, ms_p, PX, q1, q3, w1 ()]
          exact yes h
        · simp (decide := true) only [RR, ms_app, toList_some, toList_none, if_true, if_false, true_and, and_true, cond_true, sm0, sm1, sm1l, sm2, lc_lt, lc_gt, lc_eq, Int.toNat_natCast, Int.reduceToNat, Nat.reduceAdd, Nat.reduceEqDiff, Int.reduceLT, Int.reduceEq, Int.reduceNeg, Int.reduceAdd, Int.reduceMul, Nat.reduceMul, ms_n, ms_i, ms_l, ms_p, PX, q1]
          exact nay hc
  have four : ∀ (so : Int) (s' : Nat) (v : Int), (so = 1 ∧ (kd0 = 1 ∨ kd0 = 2) ∨ so = 0 ∧ ¬(kd0 = 1 ∨ kd0 = 2)) → Skp N t e0 s' → (s' = N ∧ v = 0 ∨ s' < N ∧ (ltr (t s') ∧ v = 1 ∨ dgt (t s') ∧ v = 2 ∨ ¬ltr (t s') ∧ ¬dgt (t s') ∧ v = 3)) → ∀ σ', Fr [] tkL σ σ' → σ' 20 2 = (s' : Int) → At (d + 1) 84 4 [some (.inr (.inr 20)), some (.inl so), some (.inl (e0 : Int))] [.inl v, .inr (.inr 20)] σ' K := by
    intro so s' v hso hsk hv σ' fr q2
    have hF' := hF.fr fr rfl
    have e11 : σ' 1 1 = (N : Int) := (fr 1 1 rfl).trans hT.1
    have sN := hsk.2.1
    have w1 : Unit → w32 ((s' : Int) + 1) = ((s' + 1 : Nat) : Int) := fun _ => by rw [w32_small (by omega) (by omega)]; omega
    refine At.blk rfl rfl rfl fun sx => ?_
    simp (decide := true) only [RR, ms_app, toList_some, toList_none, if_true, if_false, true_and, and_true, cond_true, sm0, sm1, sm1l, sm2, lc_lt, lc_gt, lc_eq, Int.toNat_natCast, Int.reduceToNat, Nat.reduceAdd, Nat.reduceEqDiff, Int.reduceLT, Int.reduceEq, Int.reduceNeg, Int.reduceAdd, Int.reduceMul, Nat.reduceMul, ms_n, ms_i, ms_l, ms_p, PX, fxX hF', q2, e11, w1 ()]
    refine cal_of rfl (x_iminE ?_)
    simp (decide := true) only [RR, ms_app, toList_some, toList_none, if_true, if_false, true_and, and_true, cond_true, sm0, sm1, sm1l, sm2, lc_lt, lc_gt, lc_eq, Int.toNat_natCast, Int.reduceToNat, Nat.reduceAdd, Nat.reduceEqDiff, Int.reduceLT, Int.reduceEq, Int.reduceNeg, Int.reduceAdd, Int.reduceMul, Nat.reduceMul, ms_n, ms_i, ms_l, ms_p, PX]
    have nosolid : ∀ (e : Nat) (σ5 : mM), Fr [] tkL σ σ5 → σ5 20 1 = v → σ5 20 2 = (s' : Int) → σ5 20 3 = (e : Int) → ¬(v = 1 ∨ v = 2) → Tok N t s' false e v → At (d + 1) 84 5 [some (.inr (.inr 20)), some (.inl so), some (.inl (e0 : Int))] [] σ5 K := by
      intro e σ5 f5 q1 q2 q3 hn hTok
      refine At.blk rfl rfl rfl fun sx => ?_
      simp (decide := true) only [RR, ms_app, toList_some, toList_none, if_true, if_false, true_and, and_true, cond_true, sm0, sm1, sm1l, sm2, lc_lt, lc_gt, lc_eq, Int.toNat_natCast, Int.reduceToNat, Nat.reduceAdd, Nat.reduceEqDiff, Int.reduceLT, Int.reduceEq, Int.reduceNeg, Int.reduceAdd, Int.reduceMul, Nat.reduceMul, ms_n, ms_i, ms_l, ms_p, PX]
      refine cal_of rfl (x_isSolid (fun hs => by rw [q1] at hs; exact absurd hs hn) (fun hs => ?_))
      simp (decide := true) only [RR, ms_app, toList_some, toList_none, if_true, if_false, true_and, and_true, cond_true, sm0, sm1, sm1l, sm2, lc_lt, lc_gt, lc_eq, Int.toNat_natCast, Int.reduceToNat, Nat.reduceAdd, Nat.reduceEqDiff, Int.reduceLT, Int.reduceEq, Int.reduceNeg, Int.reduceAdd, Int.reduceMul, Nat.reduceMul, ms_n, ms_i, ms_l, ms_p, PX]
      exact six so σ5 s' e v hso f5 hsk q1 q2 q3 hTok
    rcases hv with ⟨a1, rfl⟩ | ⟨a1, hv⟩
    · rw [if_pos (by omega)]
      exact nosolid N _ ((fr.set rfl).set rfl) rfl q2 rfl (by omega) (Or.inl ⟨a1, rfl, rfl⟩)
    · by_cases c : (N : Int) < ((s' + 1 : Nat) : Int)
      · omega
      · rw [if_neg c]
        have hnb := hsk.2.2.2 a1
        rcases hv with ⟨b1, rfl⟩ | ⟨b1, rfl⟩ | ⟨b1, b2, rfl⟩
        · exact five ltr 1 (Or.inl ⟨rfl, rfl⟩) so s' hso hsk a1 hnb b1 (N - (s' + 1)) (s' + 1) rfl (by omega) (by omega) (fun k h1 h2 => by rw [show k = s' by omega]; exact b1) _ ((fr.set rfl).set rfl) rfl q2 rfl
        · exact five dgt 2 (Or.inr ⟨rfl, rfl⟩) so s' hso hsk a1 hnb b1 (N - (s' + 1)) (s' + 1) rfl (by omega) (by omega) (fun k h1 h2 => by rw [show k = s' by omega]; exact b1) _ ((fr.set rfl).set rfl) rfl q2 rfl
        · exact nosolid (s' + 1) _ ((fr.set rfl).set rfl) rfl q2 rfl (by omega) (Or.inr ⟨a1, hnb, Or.inr (Or.inr ⟨b1, b2, rfl, rfl⟩)⟩)
  have two : ∀ (so : Int) (s' : Nat), (so = 1 ∧ (kd0 = 1 ∨ kd0 = 2) ∨ so = 0 ∧ ¬(kd0 = 1 ∨ kd0 = 2)) → Skp N t e0 s' → ∀ σ', Fr [] tkL σ σ' → σ' 20 2 = (s' : Int) → At (d + 1) 84 2 [some (.inr (.inr 20)), some (.inl so), some (.inl (e0 : Int))] [] σ' K := by
    intro so s' hso hsk σ' fr q2
    have hF' := hF.fr fr rfl
    have e11 : σ' 1 1 = (N : Int) := (fr 1 1 rfl).trans hT.1
    have sN := hsk.2.1
    by_cases c : s' = N
    · refine At.blk rfl rfl rfl fun sx => ?_
      simp (decide := true) only [RR, ms_app, toList_some, toList_none, if_true, if_false, true_and, and_true, cond_true, sm0, sm1, sm1l, sm2, lc_lt, lc_gt, lc_eq, Int.toNat_natCast, Int.reduceToNat, Nat.reduceAdd, Nat.reduceEqDiff, Int.reduceLT, Int.reduceEq, Int.reduceNeg, Int.reduceAdd, Int.reduceMul, Nat.reduceMul, ms_n, ms_i, ms_l, ms_p, PX, fxX hF', q2, e11]
      rw [if_neg (by omega)]
      refine At.blk rfl rfl rfl fun sx => ?_
      simp (decide := true) only [RR, ms_app, toList_some, toList_none, if_true, if_false, true_and, and_true, cond_true, sm0, sm1, sm1l, sm2, lc_lt, lc_gt, lc_eq, Int.toNat_natCast, Int.reduceToNat, Nat.reduceAdd, Nat.reduceEqDiff, Int.reduceLT, Int.reduceEq, Int.reduceNeg, Int.reduceAdd, Int.reduceMul, Nat.reduceMul, ms_n, ms_i, ms_l, ms_p, PX]
      exact four so s' 0 hso hsk (Or.inl ⟨c, rfl⟩) σ' fr q2
    · have et : σ' 2 s' = t s' := (fr 2 s' rfl).trans (hT.2.2 s' (by omega)).1
      have hnb := hsk.2.2.2 (by omega)
      refine At.blk rfl rfl rfl fun sx => ?_
      simp (decide := true) only [RR, ms_app, toList_some, toList_none, if_true, if_false, true_and, and_true, cond_true, sm0, sm1, sm1l, sm2, lc_lt, lc_gt, lc_eq, Int.toNat_natCast, Int.reduceToNat, Nat.reduceAdd, Nat.reduceEqDiff, Int.reduceLT, Int.reduceEq, Int.reduceNeg, Int.reduceAdd, Int.reduceMul, Nat.reduceMul, ms_n, ms_i, ms_l, ms_p, PX, fxX hF', q2, e11, et]
      rw [if_pos (by omega)]
      refine ⟨⟨by omega, by omega⟩, ?_⟩
      refine cal_of rfl (x_kindOf (fun h => absurd h hnb) (fun h => ?_) (fun h => ?_) (fun ha hb hc => ?_))
      · simp (decide := true) only [RR, ms_app, toList_some, toList_none, if_true, if_false, true_and, and_true, cond_true, sm0, sm1, sm1l, sm2, lc_lt, lc_gt, lc_eq, Int.toNat_natCast, Int.reduceToNat, Nat.reduceAdd, Nat.reduceEqDiff, Int.reduceLT, Int.reduceEq, Int.reduceNeg, Int.reduceAdd, Int.reduceMul, Nat.reduceMul, ms_n, ms_i, ms_l, ms_p, PX]
        exact four so s' 1 hso hsk (Or.inr ⟨by omega, Or.inl ⟨h, rfl⟩⟩) σ' fr q2
      · simp (decide := true) only [RR, ms_app, toList_some, toList_none, if_true, if_false, true_and, and_true, cond_true, sm0, sm1, sm1l, sm2, lc_lt, lc_gt, lc_eq, Int.toNat_natCast, Int.reduceToNat, Nat.reduceAdd, Nat.reduceEqDiff, Int.reduceLT, Int.reduceEq, Int.reduceNeg, Int.reduceAdd, Int.reduceMul, Nat.reduceMul, ms_n, ms_i, ms_l, ms_p, PX]
        exact four so s' 2 hso hsk (Or.inr ⟨by omega, Or.inr (Or.inl ⟨h, rfl⟩)⟩) σ' fr q2
      · simp (decide := true) only [RR, ms_app, toList_some, toList_none, if_true, if_false, true_and, and_true, cond_true, sm0, sm1, sm1l, sm2, lc_lt, lc_gt, lc_eq, Int.toNat_natCast, Int.reduceToNat, Nat.reduceAdd, Nat.reduceEqDiff, Int.reduceLT, Int.reduceEq, Int.reduceNeg, Int.reduceAdd, Int.reduceMul, Nat.reduceMul, ms_n, ms_i, ms_l, ms_p, PX]
        exact four so s' 3 hso hsk (Or.inr ⟨by omega, Or.inr (Or.inr ⟨hb, hc, rfl⟩)⟩) σ' fr q2
  have one : ∀ (so : Int), (so = 1 ∧ (kd0 = 1 ∨ kd0 = 2) ∨ so = 0 ∧ ¬(kd0 = 1 ∨ kd0 = 2)) → ∀ m i : Nat, N - i = m → i ≤ N → e0 ≤ i → (∀ k, e0 ≤ k → k < i → blk (t k)) → ∀ σ', Fr [] tkL σ σ' → σ' 20 2 = (i : Int) → At (d + 1) 84 1 [some (.inr (.inr 20)), some (.inl so), some (.inl (e0 : Int))] [] σ' K := by
    intro so hso m
    induction m with
    | zero =>
      intro i hi hi2 hi3 hq σ' fr q2
      obtain rfl : i = N := by omega
      have hF' := hF.fr fr rfl
      have e11 : σ' 1 1 = (i : Int) := (fr 1 1 rfl).trans hT.1
      refine At.blk rfl rfl rfl fun sx => ?_
      simp (decide := true) only [RR, ms_app, toList_some, toList_none, if_true, if_false, true_and, and_true, cond_true, sm0, sm1, sm1l, sm2, lc_lt, lc_gt, lc_eq, Int.toNat_natCast, Int.reduceToNat, Nat.reduceAdd, Nat.reduceEqDiff, Int.reduceLT, Int.reduceEq, Int.reduceNeg, Int.reduceAdd, Int.reduceMul, Nat.reduceMul, ms_n, ms_i, ms_l, ms_p, PX, fxX hF', q2, e11]
      rw [if_neg (by omega)]
      exact two so i hso ⟨hi3, Nat.le_refl _, hq, fun h => absurd h (by omega)⟩ σ' fr q2
    | succ m ih =>
      intro i hi hi2 hi3 hq σ' fr q2
      have hF' := hF.fr fr rfl
      have e11 : σ' 1 1 = (N : Int) := (fr 1 1 rfl).trans hT.1
      have et : σ' 2 i = t i := (fr 2 i rfl).trans (hT.2.2 i (by omega)).1
      have w1 : Unit → w32 ((i : Int) + 1) = ((i + 1 : Nat) : Int) := fun _ => by rw [w32_small (by omega) (by omega)]; omega
      have nay : ¬blk (t i) → At (d + 1) 84 2 [some (.inr (.inr 20)), some (.inl so), some (.inl (e0 : Int))] [] σ' K := fun hb => two so i hso ⟨hi3, hi2, hq, fun _ => hb⟩ σ' fr q2
      refine At.blk rfl rfl rfl fun sx => ?_
      simp (decide := true) only [RR, ms_app, toList_some, toList_none, if_true, if_false, true_and, and_true, cond_true, sm0, sm1, sm1l, sm2, lc_lt, lc_gt, lc_eq, Int.toNat_natCast, Int.reduceToNat, Nat.reduceAdd, Nat.reduceEqDiff, Int.reduceLT, Int.reduceEq, Int.reduceNeg, Int.reduceAdd, Int.reduceMul, Nat.reduceMul, ms_n, ms_i, ms_l, ms_p, PX, fxX hF', q2, e11, et]
      rw [if_pos (by omega)]
      refine ⟨⟨by omega, by omega⟩, ?_⟩
      refine cal_of rfl (x_kindOf (fun h => ?_) (fun h => ?_) (fun h => ?_) (fun ha hb hc => ?_))
      · simp (decide := true) only [RR, ms_app, toList_some, toList_none, if_true, if_false, true_and, and_true, cond_true, sm0, sm1, sm1l, sm2, lc_lt, lc_gt, lc_eq, Int.toNat_natCast, Int.reduceToNat, Nat.reduceAdd, Nat.reduceEqDiff, Int.reduceLT, Int.reduceEq, Int.reduceNeg, Int.reduceAdd, Int.reduceMul, Nat.reduceMul, ms_n, ms_i, ms_l, ms_p, PX, q2, w1 ()]
        refine ih (i + 1) (by omega) (by omega) (by omega) (fun k h1 h2 => ?_) _ (fr.set rfl) rfl
        by_cases e : k = i
        · rw [e]; exact h
        · exact hq k h1 (by omega)
      · simp (decide := true) only [RR, ms_app, toList_some, toList_none, if_true, if_false, true_and, and_true, cond_true, sm0, sm1, sm1l, sm2, lc_lt, lc_gt, lc_eq, Int.toNat_natCast, Int.reduceToNat, Nat.reduceAdd, Nat.reduceEqDiff, Int.reduceLT, Int.reduceEq, Int.reduceNeg, Int.reduceAdd, Int.reduceMul, Nat.reduceMul, ms_n, ms_i, ms_l, ms_p, PX]
        exact nay (by unfold blk; omega)
      · simp (decide := true) only [RR, ms_app, toList_some, toList_none, if_true, if_false, true_and, and_true, cond_true, sm0, sm1, sm1l, sm2, lc_lt, lc_gt, lc_eq, Int.toNat_natCast, Int.reduceToNat, Nat.reduceAdd, Nat.reduceEqDiff, Int.reduceLT, Int.reduceEq, Int.reduceNeg, Int.reduceAdd, Int.reduceMul, Nat.reduceMul, ms_n, ms_i, ms_l, ms_p, PX]
        exact nay (by unfold blk; omega)
      · simp (decide := true) only [RR, ms_app, toList_some, toList_none, if_true, if_false, true_and, and_true, cond_true, sm0, sm1, sm1l, sm2, lc_lt, lc_gt, lc_eq, Int.toNat_natCast, Int.reduceToNat, Nat.reduceAdd, Nat.reduceEqDiff, Int.reduceLT, Int.reduceEq, Int.reduceNeg, Int.reduceAdd, Int.reduceMul, Nat.reduceMul, ms_n, ms_i, ms_l, ms_p, PX]
        exact nay ha
  refine At.blk rfl rfl rfl fun sx => ?_
  simp (decide := true) only [RR, ms_app, toList_some, toList_none, if_true, if_false, true_and, and_true, cond_true, sm0, sm1, sm1l, sm2, lc_lt, lc_gt, lc_eq, Int.toNat_natCast, Int.reduceToNat, Nat.reduceAdd, Nat.reduceEqDiff, Int.reduceLT, Int.reduceEq, Int.reduceNeg, Int.reduceAdd, Int.reduceMul, Nat.reduceMul, ms_n, ms_i, ms_l, ms_p, PX]
  refine cal_of rfl (x_isSolid (fun hs => ?_) (fun hs => ?_))
  · rw [h1] at hs
    simp (decide := true) only [RR, ms_app, toList_some, toList_none, if_true, if_false, true_and, and_true, cond_true, sm0, sm1, sm1l, sm2, lc_lt, lc_gt, lc_eq, Int.toNat_natCast, Int.reduceToNat, Nat.reduceAdd, Nat.reduceEqDiff, Int.reduceLT, Int.reduceEq, Int.reduceNeg, Int.reduceAdd, Int.reduceMul, Nat.reduceMul, ms_n, ms_i, ms_l, ms_p, PX, h3]
    exact one 1 (Or.inl ⟨rfl, hs⟩) (N - e0) e0 rfl he (Nat.le_refl _) (fun k a b => absurd b (by omega)) _ (Fr.same.set rfl) rfl
  · rw [h1] at hs
    simp (decide := true) only [RR, ms_app, toList_some, toList_none, if_true, if_false, true_and, and_true, cond_true, sm0, sm1, sm1l, sm2, lc_lt, lc_gt, lc_eq, Int.toNat_natCast, Int.reduceToNat, Nat.reduceAdd, Nat.reduceEqDiff, Int.reduceLT, Int.reduceEq, Int.reduceNeg, Int.reduceAdd, Int.reduceMul, Nat.reduceMul, ms_n, ms_i, ms_l, ms_p, PX, h3]
    exact one 0 (Or.inr ⟨rfl, hs⟩) (N - e0) e0 rfl he (Nat.le_refl _) (fun k a b => absurd b (by omega)) _ (Fr.same.set rfl) rfl
end
