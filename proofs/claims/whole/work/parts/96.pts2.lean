section
variable {d : Nat} {was : Int} {K : Option mV → mM → Prop} {σ σ0 : mM} {N : Nat} {t : Nat → Int} {tk : Int} {s : Nat} {g : Bool} {rc up dn : List Int} {o : Nat}
/-- near -/
theorem QA_near {c : Int} {e : Nat} (h : QT σ N t tk s g rc up dn o) (hp : PosA σ N t s g) (hi : IsWd N t s g e 2) (h1 : o < 6 → ∀ σ' s', QT σ' N t tk s' (decide (s' = e)) rc (60 :: up) dn (o + 1) → Skp N t e s' → Fr fqL fqT σ σ' → QA d was K σ') (h0 : o = 6 → QB d was K σ 4 (s : Int)) : ∀ o4 o5, At (d + 8) 248 10 [some (.inr (.inr 146)), some (.inl 1), some (.inl c), some (.inl 9), o4, o5] [] σ (QK d was K) := by
  intro o4 o5
  obtain ⟨sN, n16⟩ := h.le
  have hlt := h.2.1
  have ew := hi.2.2.2.2.1
  have wl0 := (wl_tab 2 (by decide)).1.1
  have w9 : w32 (w32 69 - 9) = 60 := rfl
  refine At.blk rfl rfl rfl fun sx => ?_
  simp (decide := true) only [RR, ms_app, toList_some, toList_none, if_true, if_false, true_and, and_true, cond_true, sm0, sm1, sm1l, sm2, lc_lt, lc_gt, lc_eq, Int.toNat_natCast, Int.reduceToNat, Nat.reduceAdd, Nat.reduceEqDiff, Int.reduceLT, Int.reduceEq, Int.reduceNeg, Int.reduceAdd, Int.reduceMul, Nat.reduceMul, ms_n, ms_i, ms_l, ms_p, PM, hp.1, w9]
  refine cal_of rfl (m_qOpens h.1 h.2.2 (by omega) (fun ho => ?_) (fun ho => ?_))
  · have m3 := h.1.opn (v := 60) (by omega)
    generalize hσ3 : mj_set (mj_set (mj_set σ 146 92 ((o + 1 : Nat) : Int)) 215 (up ++ dn).length 60) 146 91 (((up ++ dn).length + 1 : Nat) : Int) = σ3 at *
    have f3 : Fr fqL fqT σ σ3 := by rw [← hσ3]; exact ((Fr.same.set rfl).setr rfl).set rfl
    simp (decide := true) only [RR, ms_app, toList_some, toList_none, if_true, if_false, true_and, and_true, cond_true, sm0, sm1, sm1l, sm2, lc_lt, lc_gt, lc_eq, Int.toNat_natCast, Int.reduceToNat, Nat.reduceAdd, Nat.reduceEqDiff, Int.reduceLT, Int.reduceEq, Int.reduceNeg, Int.reduceAdd, Int.reduceMul, Nat.reduceMul, ms_n, ms_i, ms_l, ms_p, PM]
    refine cal_of rfl (m_qAsksWord (j := 9) (by decide) m3.1 m3.2.1 m3.2.2.1 m3.2.2.2.1 (e := e) hi (fun σ4 s4 f4 k4 p4 => ?_))
    have := k4.1
    simp (decide := true) only [RR, ms_app, toList_some, toList_none, if_true, if_false, true_and, and_true, cond_true, sm0, sm1, sm1l, sm2, lc_lt, lc_gt, lc_eq, Int.toNat_natCast, Int.reduceToNat, Nat.reduceAdd, Nat.reduceEqDiff, Int.reduceLT, Int.reduceEq, Int.reduceNeg, Int.reduceAdd, Int.reduceMul, Nat.reduceMul, ms_n, ms_i, ms_l, ms_p, PM]
    refine At.blk rfl rfl rfl fun sx => ?_
    simp (decide := true) only [RR, ms_app, toList_some, toList_none, if_true, if_false, true_and, and_true, cond_true, sm0, sm1, sm1l, sm2, lc_lt, lc_gt, lc_eq, Int.toNat_natCast, Int.reduceToNat, Nat.reduceAdd, Nat.reduceEqDiff, Int.reduceLT, Int.reduceEq, Int.reduceNeg, Int.reduceAdd, Int.reduceMul, Nat.reduceMul, ms_n, ms_i, ms_l, ms_p, PM]
    exact h1 ho σ4 s4 ⟨m3.mv f4 p4 (by omega), by simp only [List.cons_append, List.length_cons]; omega, by omega⟩ k4 (f3.trans (f4.mono rfl)) _ _ _ _
  · have hb := h0 ho
    simp (decide := true) only [RR, ms_app, toList_some, toList_none, if_true, if_false, true_and, and_true, cond_true, sm0, sm1, sm1l, sm2, lc_lt, lc_gt, lc_eq, Int.toNat_natCast, Int.reduceToNat, Nat.reduceAdd, Nat.reduceEqDiff, Int.reduceLT, Int.reduceEq, Int.reduceNeg, Int.reduceAdd, Int.reduceMul, Nat.reduceMul, ms_n, ms_i, ms_l, ms_p, PM]
    refine cal_of rfl (Mt.go (lv := [some (.inr (.inr 146)), some (.inl 9)]) rfl rfl rfl ?_)
    refine At.blk rfl rfl rfl fun sx => ?_
    simp (decide := true) only [RR, ms_app, toList_some, toList_none, if_true, if_false, true_and, and_true, cond_true, sm0, sm1, sm1l, sm2, lc_lt, lc_gt, lc_eq, Int.toNat_natCast, Int.reduceToNat, Nat.reduceAdd, Nat.reduceEqDiff, Int.reduceLT, Int.reduceEq, Int.reduceNeg, Int.reduceAdd, Int.reduceMul, Nat.reduceMul, ms_n, ms_i, ms_l, ms_p, PM]
    have hF2 : Fix (mj_set (mj_set σ 146 5 4) 146 6 (s : Int)) := (h.1.1.set rfl).set rfl
    refine At.blk rfl rfl rfl fun sx => ?_
    simp (decide := true) only [RR, ms_app, toList_some, toList_none, if_true, if_false, true_and, and_true, cond_true, sm0, sm1, sm1l, sm2, lc_lt, lc_gt, lc_eq, Int.toNat_natCast, Int.reduceToNat, Nat.reduceAdd, Nat.reduceEqDiff, Int.reduceLT, Int.reduceEq, Int.reduceNeg, Int.reduceAdd, Int.reduceMul, Nat.reduceMul, ms_n, ms_i, ms_l, ms_p, PM, fxM h.1.1]
    refine cal_of rfl (Mt.go (lv := [some (.inr (.inr 146)), some (.inr (.inr 213))]) rfl rfl rfl ?_)
    refine At.blk rfl rfl rfl fun sx => ?_
    simp (decide := true) only [RR, ms_app, toList_some, toList_none, if_true, if_false, true_and, and_true, cond_true, sm0, sm1, sm1l, sm2, lc_lt, lc_gt, lc_eq, Int.toNat_natCast, Int.reduceToNat, Nat.reduceAdd, Nat.reduceEqDiff, Int.reduceLT, Int.reduceEq, Int.reduceNeg, Int.reduceAdd, Int.reduceMul, Nat.reduceMul, ms_n, ms_i, ms_l, ms_p, PM]
    refine At.blk rfl rfl rfl fun sx => ?_
    simp (decide := true) only [RR, ms_app, toList_some, toList_none, if_true, if_false, true_and, and_true, cond_true, sm0, sm1, sm1l, sm2, lc_lt, lc_gt, lc_eq, Int.toNat_natCast, Int.reduceToNat, Nat.reduceAdd, Nat.reduceEqDiff, Int.reduceLT, Int.reduceEq, Int.reduceNeg, Int.reduceAdd, Int.reduceMul, Nat.reduceMul, ms_n, ms_i, ms_l, ms_p, PM]
    refine At.blk rfl rfl rfl fun sx => ?_
    simp (decide := true) only [RR, ms_app, toList_some, toList_none, if_true, if_false, true_and, and_true, cond_true, sm0, sm1, sm1l, sm2, lc_lt, lc_gt, lc_eq, Int.toNat_natCast, Int.reduceToNat, Nat.reduceAdd, Nat.reduceEqDiff, Int.reduceLT, Int.reduceEq, Int.reduceNeg, Int.reduceAdd, Int.reduceMul, Nat.reduceMul, ms_n, ms_i, ms_l, ms_p, PM]
    refine At.blk rfl rfl rfl fun sx => ?_
    simp (decide := true) only [RR, ms_app, toList_some, toList_none, if_true, if_false, true_and, and_true, cond_true, sm0, sm1, sm1l, sm2, lc_lt, lc_gt, lc_eq, Int.toNat_natCast, Int.reduceToNat, Nat.reduceAdd, Nat.reduceEqDiff, Int.reduceLT, Int.reduceEq, Int.reduceNeg, Int.reduceAdd, Int.reduceMul, Nat.reduceMul, ms_n, ms_i, ms_l, ms_p, PM]
    exact QA_bad (by show (4 : Int) ≠ 0; decide) (fun z => hb.2 _ z rfl rfl ((Fr.same.set rfl).set rfl) ⟨rc.length, by exact h.1.2.2.2.2.2.1.1, by omega⟩) _ _ _ _
/-- no more opening: a word, a number, or bad -/
theorem QA_end {c : Int} (h : QT σ N t tk s g rc up dn o)
    (hw : ∀ j e σ' s', j < 9 → alw tk j → IsWd N t s g e (vw j) → Skp N t e s' → QT σ' N t tk s' (decide (s' = e)) ((40 + (j : Int)) :: rc) up dn o → Fr fqL fqT σ σ' → QE d was K σ')
    (hn : (∀ j, j < 9 → alw tk j → ∀ e, ¬IsWd N t s g e (vw j)) → ∀ e σ' s', IsNm N t s g e → e - s ≤ 4 → Skp N t e s' → QT σ' N t tk s' (decide (s' = e)) ((1000 + numV t s (e - s)) :: rc) up dn o → Fr fqL fqT σ σ' → QE d was K σ')
    (hb : (∀ j, j < 9 → alw tk j → ∀ e, ¬IsWd N t s g e (vw j)) → ∀ k p, NmF N t s g 0 9999 k p → QB d was K σ k p) : ∀ o4 o5, At (d + 8) 248 10 [some (.inr (.inr 146)), some (.inl 1), some (.inl c), some (.inl (-1)), o4, o5] [] σ (QK d was K) := by
  intro o4 o5
  obtain ⟨sN, n16⟩ := h.le
  have hlt := h.2.1
  refine At.blk rfl rfl rfl fun sx => ?_
  simp (decide := true) only [RR, ms_app, toList_some, toList_none, if_true, if_false, true_and, and_true, cond_true, sm0, sm1, sm1l, sm2, lc_lt, lc_gt, lc_eq, Int.toNat_natCast, Int.reduceToNat, Nat.reduceAdd, Nat.reduceEqDiff, Int.reduceLT, Int.reduceEq, Int.reduceNeg, Int.reduceAdd, Int.reduceMul, Nat.reduceMul, ms_n, ms_i, ms_l, ms_p, PM]
  refine At.blk rfl rfl rfl fun sx => ?_
  simp (decide := true) only [RR, ms_app, toList_some, toList_none, if_true, if_false, true_and, and_true, cond_true, sm0, sm1, sm1l, sm2, lc_lt, lc_gt, lc_eq, Int.toNat_natCast, Int.reduceToNat, Nat.reduceAdd, Nat.reduceEqDiff, Int.reduceLT, Int.reduceEq, Int.reduceNeg, Int.reduceAdd, Int.reduceMul, Nat.reduceMul, ms_n, ms_i, ms_l, ms_p, PM]
  refine At.blk rfl rfl rfl fun sx => ?_
  simp (decide := true) only [RR, ms_app, toList_some, toList_none, if_true, if_false, true_and, and_true, cond_true, sm0, sm1, sm1l, sm2, lc_lt, lc_gt, lc_eq, Int.toNat_natCast, Int.reduceToNat, Nat.reduceAdd, Nat.reduceEqDiff, Int.reduceLT, Int.reduceEq, Int.reduceNeg, Int.reduceAdd, Int.reduceMul, Nat.reduceMul, ms_n, ms_i, ms_l, ms_p, PM]
  refine At.blk rfl rfl rfl fun sx => ?_
  simp (decide := true) only [RR, ms_app, toList_some, toList_none, if_true, if_false, true_and, and_true, cond_true, sm0, sm1, sm1l, sm2, lc_lt, lc_gt, lc_eq, Int.toNat_natCast, Int.reduceToNat, Nat.reduceAdd, Nat.reduceEqDiff, Int.reduceLT, Int.reduceEq, Int.reduceNeg, Int.reduceAdd, Int.reduceMul, Nat.reduceMul, ms_n, ms_i, ms_l, ms_p, PM]
  refine At.blk rfl rfl rfl fun sx => ?_
  simp (decide := true) only [RR, ms_app, toList_some, toList_none, if_true, if_false, true_and, and_true, cond_true, sm0, sm1, sm1l, sm2, lc_lt, lc_gt, lc_eq, Int.toNat_natCast, Int.reduceToNat, Nat.reduceAdd, Nat.reduceEqDiff, Int.reduceLT, Int.reduceEq, Int.reduceNeg, Int.reduceAdd, Int.reduceMul, Nat.reduceMul, ms_n, ms_i, ms_l, ms_p, PM, h.1.2.2.1]
  refine At.blk rfl rfl rfl fun sx => ?_
  simp (decide := true) only [RR, ms_app, toList_some, toList_none, if_true, if_false, true_and, and_true, cond_true, sm0, sm1, sm1l, sm2, lc_lt, lc_gt, lc_eq, Int.toNat_natCast, Int.reduceToNat, Nat.reduceAdd, Nat.reduceEqDiff, Int.reduceLT, Int.reduceEq, Int.reduceNeg, Int.reduceAdd, Int.reduceMul, Nat.reduceMul, ms_n, ms_i, ms_l, ms_p, PM]
  refine cal_of rfl (m_qWordOf (lo := 0) (hi := 9) (tk := tk) h.1.1 h.1.2.1 h.1.2.2.1 h.1.2.2.2.1 h.1.2.2.2.2.1.1 (by decide) (fun σ1 k f1 p1 hk => ?_))
  have q1 := h.lk f1 p1
  -- the code is put, the part ends
  have put : ∀ (v : Int) (σ2 : mM) (s2 : Nat) (g2 : Bool) (l2 l3 l4 l5 : Option mV), QT σ2 N t tk s2 g2 rc up dn o → s < s2 → Fr fqL fqT σ σ2 → (∀ σ', QT σ' N t tk s2 g2 (v :: rc) up dn o → Fr fqL fqT σ σ' → QE d was K σ') → At (d + 8) 248 17 [some (.inr (.inr 146)), some (.inl 0), l2, l3, l4, l5] [.inl v, .inr (.inr 146)] σ2 (QK d was K) := by
    intro v σ2 s2 g2 l2 l3 l4 l5 q2 hs f2 hE
    refine At.blk rfl rfl rfl fun sx => ?_
    simp (decide := true) only [RR, ms_app, toList_some, toList_none, if_true, if_false, true_and, and_true, cond_true, sm0, sm1, sm1l, sm2, lc_lt, lc_gt, lc_eq, Int.toNat_natCast, Int.reduceToNat, Nat.reduceAdd, Nat.reduceEqDiff, Int.reduceLT, Int.reduceEq, Int.reduceNeg, Int.reduceAdd, Int.reduceMul, Nat.reduceMul, ms_n, ms_i, ms_l, ms_p, PM]
    refine cal_of rfl (m_qCode (n := rc.length) q2.1.1 q2.1.2.2.2.2.2.1.1 (by omega) ?_)
    have q3 : QT (mj_set (mj_set σ2 214 rc.length v) 146 89 ((rc.length + 1 : Nat) : Int)) N t tk s2 g2 (v :: rc) up dn o := ⟨q2.1.code (by omega), by simp only [List.length_cons]; omega, q2.2.2⟩
    have := hE _ q3 ((f2.setr rfl).set rfl)
    simp (decide := true) only [RR, ms_app, toList_some, toList_none, if_true, if_false, true_and, and_true, cond_true, sm0, sm1, sm1l, sm2, lc_lt, lc_gt, lc_eq, Int.toNat_natCast, Int.reduceToNat, Nat.reduceAdd, Nat.reduceEqDiff, Int.reduceLT, Int.reduceEq, Int.reduceNeg, Int.reduceAdd, Int.reduceMul, Nat.reduceMul, ms_n, ms_i, ms_l, ms_p, PM]
    refine QE_go this (fun σ4 e4 g4 => ?_)
    simp (decide := true) only [RR, ms_app, toList_some, toList_none, if_true, if_false, true_and, and_true, cond_true, sm0, sm1, sm1l, sm2, lc_lt, lc_gt, lc_eq, Int.toNat_natCast, Int.reduceToNat, Nat.reduceAdd, Nat.reduceEqDiff, Int.reduceLT, Int.reduceEq, Int.reduceNeg, Int.reduceAdd, Int.reduceMul, Nat.reduceMul, ms_n, ms_i, ms_l, ms_p, PM]
    exact ⟨rfl, fun _ => g4, fun h => absurd e4 h⟩
  rcases hk with ⟨rfl, hk⟩ | ⟨j, j1, j2, ja, rfl, e, je⟩
  · have hno : ∀ j, j < 9 → alw tk j → ∀ e, ¬IsWd N t s g e (vw j) := fun j hj => hk j (by omega) hj
    simp (decide := true) only [RR, ms_app, toList_some, toList_none, if_true, if_false, true_and, and_true, cond_true, sm0, sm1, sm1l, sm2, lc_lt, lc_gt, lc_eq, Int.toNat_natCast, Int.reduceToNat, Nat.reduceAdd, Nat.reduceEqDiff, Int.reduceLT, Int.reduceEq, Int.reduceNeg, Int.reduceAdd, Int.reduceMul, Nat.reduceMul, ms_n, ms_i, ms_l, ms_p, PM]
    refine At.blk rfl rfl rfl fun sx => ?_
    simp (decide := true) only [RR, ms_app, toList_some, toList_none, if_true, if_false, true_and, and_true, cond_true, sm0, sm1, sm1l, sm2, lc_lt, lc_gt, lc_eq, Int.toNat_natCast, Int.reduceToNat, Nat.reduceAdd, Nat.reduceEqDiff, Int.reduceLT, Int.reduceEq, Int.reduceNeg, Int.reduceAdd, Int.reduceMul, Nat.reduceMul, ms_n, ms_i, ms_l, ms_p, PM]
    refine At.blk rfl rfl rfl fun sx => ?_
    simp (decide := true) only [RR, ms_app, toList_some, toList_none, if_true, if_false, true_and, and_true, cond_true, sm0, sm1, sm1l, sm2, lc_lt, lc_gt, lc_eq, Int.toNat_natCast, Int.reduceToNat, Nat.reduceAdd, Nat.reduceEqDiff, Int.reduceLT, Int.reduceEq, Int.reduceNeg, Int.reduceAdd, Int.reduceMul, Nat.reduceMul, ms_n, ms_i, ms_l, ms_p, PM]
    refine cal_of rfl (m_number q1.1.1 q1.1.2.1 q1.1.2.2.1 q1.1.2.2.2.1 (fun σ2 e2 s2 f2 hi2 h4 hr k2 p2 => ?_) (fun σ2 k p v f2 hN e5 e6 hv => ?_))
    · have r1 := hi2.2.2.2.1
      have hd : e2 ≠ s := by
        intro hes
        have := hi2.2.2.1
        have h9 := hi2.2.2.2.2.2.2
        rw [hes] at h9
        exact h9 hi2.2.1 this
      have k21 := k2.1
      have nv := numV_le (t := t) (s := s) (e2 - s) h4 (fun j hj => hi2.2.2.2.2.2.1 _ (by omega) (by omega))
      simp (decide := true) only [RR, ms_app, toList_some, toList_none, if_true, if_false, true_and, and_true, cond_true, sm0, sm1, sm1l, sm2, lc_lt, lc_gt, lc_eq, Int.toNat_natCast, Int.reduceToNat, Nat.reduceAdd, Nat.reduceEqDiff, Int.reduceLT, Int.reduceEq, Int.reduceNeg, Int.reduceAdd, Int.reduceMul, Nat.reduceMul, ms_n, ms_i, ms_l, ms_p, PM]
      rw [w32_small (by omega) (by omega)]
      exact put _ σ2 s2 _ _ _ _ _ (q1.mv f2 p2 (by omega)) (by omega) ((f1.mono rfl).trans (f2.mono rfl)) (fun σ' q' f' => hn hno e2 σ' s2 hi2 h4 k2 q' f')
    · have hq := hb hno k p hN
      have hF2 := q1.1.1.fr f2 rfl
      simp (decide := true) only [RR, ms_app, toList_some, toList_none, if_true, if_false, true_and, and_true, cond_true, sm0, sm1, sm1l, sm2, lc_lt, lc_gt, lc_eq, Int.toNat_natCast, Int.reduceToNat, Nat.reduceAdd, Nat.reduceEqDiff, Int.reduceLT, Int.reduceEq, Int.reduceNeg, Int.reduceAdd, Int.reduceMul, Nat.reduceMul, ms_n, ms_i, ms_l, ms_p, PM]
      refine At.blk rfl rfl rfl fun sx => ?_
      simp (decide := true) only [RR, ms_app, toList_some, toList_none, if_true, if_false, true_and, and_true, cond_true, sm0, sm1, sm1l, sm2, lc_lt, lc_gt, lc_eq, Int.toNat_natCast, Int.reduceToNat, Nat.reduceAdd, Nat.reduceEqDiff, Int.reduceLT, Int.reduceEq, Int.reduceNeg, Int.reduceAdd, Int.reduceMul, Nat.reduceMul, ms_n, ms_i, ms_l, ms_p, PM]
      refine cal_of rfl (m_qCode (n := rc.length) hF2 ((f2 146 89 rfl).trans q1.1.2.2.2.2.2.1.1) (by omega) ?_)
      simp (decide := true) only [RR, ms_app, toList_some, toList_none, if_true, if_false, true_and, and_true, cond_true, sm0, sm1, sm1l, sm2, lc_lt, lc_gt, lc_eq, Int.toNat_natCast, Int.reduceToNat, Nat.reduceAdd, Nat.reduceEqDiff, Int.reduceLT, Int.reduceEq, Int.reduceNeg, Int.reduceAdd, Int.reduceMul, Nat.reduceMul, ms_n, ms_i, ms_l, ms_p, PM]
      refine cal_of rfl (Mt.go (lv := [some (.inr (.inr 146))]) rfl rfl rfl ?_)
      have e5' : σ2 146 5 ≠ 0 := by rw [e5]; exact hq.1
      refine At.blk rfl rfl rfl fun sx => ?_
      simp (decide := true) only [RR, ms_app, toList_some, toList_none, if_true, if_false, true_and, and_true, cond_true, sm0, sm1, sm1l, sm2, lc_lt, lc_gt, lc_eq, Int.toNat_natCast, Int.reduceToNat, Nat.reduceAdd, Nat.reduceEqDiff, Int.reduceLT, Int.reduceEq, Int.reduceNeg, Int.reduceAdd, Int.reduceMul, Nat.reduceMul, ms_n, ms_i, ms_l, ms_p, PM]
      rw [if_neg e5']
      refine At.blk rfl rfl rfl fun sx => ?_
      simp (decide := true) only [RR, ms_app, toList_some, toList_none, if_true, if_false, true_and, and_true, cond_true, sm0, sm1, sm1l, sm2, lc_lt, lc_gt, lc_eq, Int.toNat_natCast, Int.reduceToNat, Nat.reduceAdd, Nat.reduceEqDiff, Int.reduceLT, Int.reduceEq, Int.reduceNeg, Int.reduceAdd, Int.reduceMul, Nat.reduceMul, ms_n, ms_i, ms_l, ms_p, PM]
      refine ⟨rfl, fun h2 => absurd h2 e5', fun _ => hq.2 _ 0 e5 e6 ?_ ⟨rc.length + 1, by rfl, by omega⟩⟩
      exact (((f1.mono rfl).trans (f2.mono rfl)).setr rfl).set rfl
  · have ew := je.2.2.2.2.1
    have wl0 := (wl_tab (vw j) (vw_lt j (by omega))).1.1
    simp (decide := true) only [RR, ms_app, toList_some, toList_none, if_true, if_false, true_and, and_true, cond_true, sm0, sm1, sm1l, sm2, lc_lt, lc_gt, lc_eq, Int.toNat_natCast, Int.reduceToNat, Nat.reduceAdd, Nat.reduceEqDiff, Int.reduceLT, Int.reduceEq, Int.reduceNeg, Int.reduceAdd, Int.reduceMul, Nat.reduceMul, ms_n, ms_i, ms_l, ms_p, PM]
    rw [if_neg (by omega)]
    refine cal_of rfl (m_qAsksWord (j := j) (by omega) q1.1.1 q1.1.2.1 q1.1.2.2.1 q1.1.2.2.2.1 (e := e) je (fun σ2 s2 f2 k2 p2 => ?_))
    have k21 := k2.1
    simp (decide := true) only [RR, ms_app, toList_some, toList_none, if_true, if_false, true_and, and_true, cond_true, sm0, sm1, sm1l, sm2, lc_lt, lc_gt, lc_eq, Int.toNat_natCast, Int.reduceToNat, Nat.reduceAdd, Nat.reduceEqDiff, Int.reduceLT, Int.reduceEq, Int.reduceNeg, Int.reduceAdd, Int.reduceMul, Nat.reduceMul, ms_n, ms_i, ms_l, ms_p, PM]
    refine At.blk rfl rfl rfl fun sx => ?_
    simp (decide := true) only [RR, ms_app, toList_some, toList_none, if_true, if_false, true_and, and_true, cond_true, sm0, sm1, sm1l, sm2, lc_lt, lc_gt, lc_eq, Int.toNat_natCast, Int.reduceToNat, Nat.reduceAdd, Nat.reduceEqDiff, Int.reduceLT, Int.reduceEq, Int.reduceNeg, Int.reduceAdd, Int.reduceMul, Nat.reduceMul, ms_n, ms_i, ms_l, ms_p, PM]
    rw [if_neg (by omega), w32_small (by omega) (by omega)]
    exact put _ σ2 s2 _ _ _ _ _ (q1.mv f2 p2 (by omega)) (by omega) ((f1.mono rfl).trans (f2.mono rfl)) (fun σ' q' f' => hw j e σ' s2 j2 ja je k2 q' f')
/-! qGoesOn -/
/-- no ')' that closes: on to the signs -/
theorem QG_five (h : QT σ N t tk s g rc up dn o) (hi : ¬IsSg N t s 41 ∨ ¬(brk up = 20 ∨ brk up = 23 ∨ brk up = 24)) (h1 : ∀ σ1 o1, QT σ1 N t tk s g rc up dn o → PosA σ1 N t s g → Fr fqL fqT σ σ1 → At (d + 8) 249 5 [some (.inr (.inr 146)), o1] [] σ1 (GK d was K)) : QG d was K σ := by
  intro o1
  refine At.blk rfl rfl rfl fun sx => ?_
  simp (decide := true) only [RR, ms_app, toList_some, toList_none, if_true, if_false, true_and, and_true, cond_true, sm0, sm1, sm1l, sm2, lc_lt, lc_gt, lc_eq, Int.toNat_natCast, Int.reduceToNat, Nat.reduceAdd, Nat.reduceEqDiff, Int.reduceLT, Int.reduceEq, Int.reduceNeg, Int.reduceAdd, Int.reduceMul, Nat.reduceMul, ms_n, ms_i, ms_l, ms_p, PM, h.1.2.2.1]
  refine cal_of rfl (m_look h.1.1 h.1.2.1 h.1.2.2.2.1 (fun σ1 f1 p1 => ?_))
  have q1 := h.lk f1 p1
  have five := h1 σ1 o1 q1 p1 (f1.mono rfl)
  simp (decide := true) only [RR, ms_app, toList_some, toList_none, if_true, if_false, true_and, and_true, cond_true, sm0, sm1, sm1l, sm2, lc_lt, lc_gt, lc_eq, Int.toNat_natCast, Int.reduceToNat, Nat.reduceAdd, Nat.reduceEqDiff, Int.reduceLT, Int.reduceEq, Int.reduceNeg, Int.reduceAdd, Int.reduceMul, Nat.reduceMul, ms_n, ms_i, ms_l, ms_p, PM]
  by_cases ec : chr0 N t s = 41
  · rw [if_pos ec]
    have hb : ¬(brk up = 20 ∨ brk up = 23 ∨ brk up = 24) := by
      rcases hi with hi | hi
      · exfalso
        unfold chr0 at ec
        by_cases c : s < N
        · rw [if_pos c] at ec; exact hi ⟨c, ec⟩
        · rw [if_neg c] at ec; omega
      · exact hi
    refine cal_of rfl (m_qBracket q1.1 ?_)
    simp (decide := true) only [RR, ms_app, toList_some, toList_none, if_true, if_false, true_and, and_true, cond_true, sm0, sm1, sm1l, sm2, lc_lt, lc_gt, lc_eq, Int.toNat_natCast, Int.reduceToNat, Nat.reduceAdd, Nat.reduceEqDiff, Int.reduceLT, Int.reduceEq, Int.reduceNeg, Int.reduceAdd, Int.reduceMul, Nat.reduceMul, ms_n, ms_i, ms_l, ms_p, PM]
    rw [if_neg (by omega)]
    refine cal_of rfl (m_qBracket q1.1 ?_)
    simp (decide := true) only [RR, ms_app, toList_some, toList_none, if_true, if_false, true_and, and_true, cond_true, sm0, sm1, sm1l, sm2, lc_lt, lc_gt, lc_eq, Int.toNat_natCast, Int.reduceToNat, Nat.reduceAdd, Nat.reduceEqDiff, Int.reduceLT, Int.reduceEq, Int.reduceNeg, Int.reduceAdd, Int.reduceMul, Nat.reduceMul, ms_n, ms_i, ms_l, ms_p, PM]
    rw [if_neg (by omega)]
    refine cal_of rfl (m_qBracket q1.1 ?_)
    simp (decide := true) only [RR, ms_app, toList_some, toList_none, if_true, if_false, true_and, and_true, cond_true, sm0, sm1, sm1l, sm2, lc_lt, lc_gt, lc_eq, Int.toNat_natCast, Int.reduceToNat, Nat.reduceAdd, Nat.reduceEqDiff, Int.reduceLT, Int.reduceEq, Int.reduceNeg, Int.reduceAdd, Int.reduceMul, Nat.reduceMul, ms_n, ms_i, ms_l, ms_p, PM]
    rw [if_neg (by omega)]
    exact five
  · rw [if_neg ec]
    exact five
theorem brk_ops {p : List Int} {x : Int} {l : List Int} (hp : ∀ y ∈ p, 1 ≤ y ∧ y ≤ 4) (hx : 20 ≤ x ∧ x ≤ 24) : brk (p ++ x :: l) = x := by
  induction p with
  | nil =>
    show (if 20 ≤ x ∧ x ≤ 24 then x else brk l) = x
    rw [if_pos hx]
  | cons y p ih =>
    have := hp y List.mem_cons_self
    show (if 20 ≤ y ∧ y ≤ 24 then y else brk (p ++ x :: l)) = x
    rw [if_neg (by omega)]
    exact ih (fun z hz => hp z (List.mem_cons_of_mem _ hz))
theorem brk_none {p : List Int} (hp : ∀ y ∈ p, 1 ≤ y ∧ y ≤ 4) : brk p = -1 := by
  induction p with
  | nil => rfl
  | cons y p ih =>
    have := hp y List.mem_cons_self
    show (if 20 ≤ y ∧ y ≤ 24 then y else brk p) = -1
    rw [if_neg (by omega)]
    exact ih (fun z hz => hp z (List.mem_cons_of_mem _ hz))
/-- ')' -/
theorem QG_close {p : List Int} {x : Int} (hp : ∀ y ∈ p, 1 ≤ y ∧ y ≤ 4) (hx : x = 20 ∨ x = 23 ∨ x = 24) (h : QT σ N t tk s g rc (p ++ x :: up) dn (o + 1)) (hi : IsSg N t s 41) (h1 : ∀ σ' s', QT σ' N t tk s' false ((if x = 20 then [] else [if x = 23 then 5 else 6]) ++ (p.reverse ++ rc)) up dn o → Skp N t (s + 1) s' → Fr fqL fqT σ σ' → QE d was K σ') : QG d was K σ := by
  intro o1
  obtain ⟨sN, n16⟩ := h.le
  have hlt := h.2.1
  have ho := h.2.2
  have hi1 := hi.1
  have hbk : brk (p ++ x :: up) = x := brk_ops hp (by omega)
  refine At.blk rfl rfl rfl fun sx => ?_
  simp (decide := true) only [RR, ms_app, toList_some, toList_none, if_true, if_false, true_and, and_true, cond_true, sm0, sm1, sm1l, sm2, lc_lt, lc_gt, lc_eq, Int.toNat_natCast, Int.reduceToNat, Nat.reduceAdd, Nat.reduceEqDiff, Int.reduceLT, Int.reduceEq, Int.reduceNeg, Int.reduceAdd, Int.reduceMul, Nat.reduceMul, ms_n, ms_i, ms_l, ms_p, PM, h.1.2.2.1]
  refine cal_of rfl (m_look h.1.1 h.1.2.1 h.1.2.2.2.1 (fun σ1 f1 p1 => ?_))
  have q1 := h.lk f1 p1
  have ec : chr0 N t s = 41 := by unfold chr0; rw [if_pos hi1]; exact hi.2
  obtain ⟨s', hs'⟩ := skp_ex (N := N) (t := t) (N - (s + 1)) (s + 1) rfl (by omega)
  have hs1 := hs'.1
  have hs2 := hs'.2.1
  have w0 : Unit → w32 ((s : Int) + 1) = ((s + 1 : Nat) : Int) := fun _ => by rw [w32_small (by omega) (by omega)]; omega
  have w2 : Unit → w32 (((o + 1 : Nat) : Int) - 1) = (o : Int) := fun _ => by rw [w32_small (by omega) (by omega)]; omega
  have one : At (d + 8) 249 1 [some (.inr (.inr 146)), o1] [] σ1 (GK d was K) := by
    have q2 : QT (mj_set σ1 146 2 ((s + 1 : Nat) : Int)) N t tk s' false rc (p ++ x :: up) dn (o + 1) := q1.mv (Fr.same.set rfl) (p1.step hs') (by omega)
    refine At.blk rfl rfl rfl fun sx => ?_
    simp (decide := true) only [RR, ms_app, toList_some, toList_none, if_true, if_false, true_and, and_true, cond_true, sm0, sm1, sm1l, sm2, lc_lt, lc_gt, lc_eq, Int.toNat_natCast, Int.reduceToNat, Nat.reduceAdd, Nat.reduceEqDiff, Int.reduceLT, Int.reduceEq, Int.reduceNeg, Int.reduceAdd, Int.reduceMul, Nat.reduceMul, ms_n, ms_i, ms_l, ms_p, PM, p1.1, w0 ()]
    refine cal_of rfl (m_qDropsToBracket (x := x) (by omega) (p := p) (fun y hy => by have := hp y hy; omega) q2.1 (fun σ3 m3 f3 => ?_))
    have F3 : Fr fqL fqT σ σ3 := ((f1.mono rfl).set rfl).trans f3
    have hlen : (p ++ x :: up ++ dn).length = p.length + (up ++ dn).length + 1 := by simp [List.length_append]; omega
    have m3' := m3
    obtain ⟨h1', h2, h3, h4, h5, ⟨h6, h7⟩, ⟨h8, h9⟩, h10, h11, h12⟩ := m3
    rw [List.cons_append] at h8 h9 h12
    simp only [List.length_cons] at h8 h12
    simp only [List.length_append, List.length_reverse] at h12
    have hl2 : (up ++ dn).length = up.length + dn.length := List.length_append
    have w1 : Unit → w32 ((((up ++ dn).length + 1 : Nat) : Int) - 1) = ((up ++ dn).length : Int) := fun _ => by rw [w32_small (by omega) (by omega)]; omega
    have ex : σ3 215 (up ++ dn).length = x := h9.1
    simp (decide := true) only [RR, ms_app, toList_some, toList_none, if_true, if_false, true_and, and_true, cond_true, sm0, sm1, sm1l, sm2, lc_lt, lc_gt, lc_eq, Int.toNat_natCast, Int.reduceToNat, Nat.reduceAdd, Nat.reduceEqDiff, Int.reduceLT, Int.reduceEq, Int.reduceNeg, Int.reduceAdd, Int.reduceMul, Nat.reduceMul, ms_n, ms_i, ms_l, ms_p, PM, fxM h1', h8, w1 (), h10, w2 (), ex]
    have hF4 : Fix (mj_set (mj_set σ3 146 91 ((up ++ dn).length : Int)) 146 92 (o : Int)) := (h1'.set rfl).set rfl
    have m4 : QmS (mj_set (mj_set σ3 146 91 ((up ++ dn).length : Int)) 146 92 (o : Int)) N t tk s' false (p.reverse ++ rc) up dn o := by
      refine ⟨hF4, h2.cg rfl rfl, h3, h4.cg rfl rfl, h5, ⟨h6, h7.cg (fun k _ => rfl)⟩, ⟨rfl, h9.2.cg (fun k _ => rfl)⟩, rfl, h11, ?_⟩
      simp only [List.length_append, List.length_reverse]; omega
    have F4 : Fr fqL fqT σ (mj_set (mj_set σ3 146 91 ((up ++ dn).length : Int)) 146 92 (o : Int)) := (F3.set rfl).set rfl
    have b4 : (p.reverse ++ rc).length + (up ++ dn).length + 1 < s' := by
      simp only [List.length_append, List.length_reverse] at hlt ⊢
      simp only [List.length_cons] at hlt
      omega
    have fin : ∀ (σ5 : mM), QT σ5 N t tk s' false ((if x = 20 then [] else [if x = 23 then 5 else 6]) ++ (p.reverse ++ rc)) up dn o → Fr fqL fqT σ σ5 → At (d + 8) 249 4 [some (.inr (.inr 146)), o1] [] σ5 (GK d was K) := by
      intro σ5 q5 f5
      refine At.blk rfl rfl rfl fun sx => ?_
      simp (decide := true) only [RR, ms_app, toList_some, toList_none, if_true, if_false, true_and, and_true, cond_true, sm0, sm1, sm1l, sm2, lc_lt, lc_gt, lc_eq, Int.toNat_natCast, Int.reduceToNat, Nat.reduceAdd, Nat.reduceEqDiff, Int.reduceLT, Int.reduceEq, Int.reduceNeg, Int.reduceAdd, Int.reduceMul, Nat.reduceMul, ms_n, ms_i, ms_l, ms_p, PM]
      refine QE_go (h1 σ5 s' q5 hs' f5) (fun σ6 e6 g6 => ?_)
      simp (decide := true) only [RR, ms_app, toList_some, toList_none, if_true, if_false, true_and, and_true, cond_true, sm0, sm1, sm1l, sm2, lc_lt, lc_gt, lc_eq, Int.toNat_natCast, Int.reduceToNat, Nat.reduceAdd, Nat.reduceEqDiff, Int.reduceLT, Int.reduceEq, Int.reduceNeg, Int.reduceAdd, Int.reduceMul, Nat.reduceMul, ms_n, ms_i, ms_l, ms_p, PM]
      exact g6 o1
    refine ⟨⟨by omega, by omega⟩, ?_⟩
    by_cases c20 : x = 20
    · rw [if_pos c20]
      refine fin _ ?_ F4
      rw [if_pos c20]
      exact ⟨m4, by simp only [List.nil_append]; omega, by omega⟩
    · rw [if_neg c20]
      have three : ∀ v : Int, v = (if x = 23 then 5 else 6) → At (d + 8) 249 3 [some (.inr (.inr 146)), o1] [.inl v, .inr (.inr 146)] (mj_set (mj_set σ3 146 91 ((up ++ dn).length : Int)) 146 92 (o : Int)) (GK d was K) := by
        intro v hv
        refine At.blk rfl rfl rfl fun sx => ?_
        simp (decide := true) only [RR, ms_app, toList_some, toList_none, if_true, if_false, true_and, and_true, cond_true, sm0, sm1, sm1l, sm2, lc_lt, lc_gt, lc_eq, Int.toNat_natCast, Int.reduceToNat, Nat.reduceAdd, Nat.reduceEqDiff, Int.reduceLT, Int.reduceEq, Int.reduceNeg, Int.reduceAdd, Int.reduceMul, Nat.reduceMul, ms_n, ms_i, ms_l, ms_p, PM]
        refine cal_of rfl (m_qCode (n := (p.reverse ++ rc).length) hF4 m4.2.2.2.2.2.1.1 (by omega) ?_)
        simp (decide := true) only [RR, ms_app, toList_some, toList_none, if_true, if_false, true_and, and_true, cond_true, sm0, sm1, sm1l, sm2, lc_lt, lc_gt, lc_eq, Int.toNat_natCast, Int.reduceToNat, Nat.reduceAdd, Nat.reduceEqDiff, Int.reduceLT, Int.reduceEq, Int.reduceNeg, Int.reduceAdd, Int.reduceMul, Nat.reduceMul, ms_n, ms_i, ms_l, ms_p, PM]
        refine fin _ ?_ ((F4.setr rfl).set rfl)
        rw [if_neg c20, ← hv]
        exact ⟨m4.code (by omega), by simp only [List.singleton_append, List.length_cons]; omega, by omega⟩
      refine ⟨⟨by omega, by omega⟩, ?_⟩
      by_cases c23 : x = 23
      · rw [if_pos c23]
        exact three 5 (by rw [if_pos c23])
      · rw [if_neg c23]
        refine At.blk rfl rfl rfl fun sx => ?_
        simp (decide := true) only [RR, ms_app, toList_some, toList_none, if_true, if_false, true_and, and_true, cond_true, sm0, sm1, sm1l, sm2, lc_lt, lc_gt, lc_eq, Int.toNat_natCast, Int.reduceToNat, Nat.reduceAdd, Nat.reduceEqDiff, Int.reduceLT, Int.reduceEq, Int.reduceNeg, Int.reduceAdd, Int.reduceMul, Nat.reduceMul, ms_n, ms_i, ms_l, ms_p, PM]
        exact three 6 (by rw [if_neg c23])
  simp (decide := true) only [RR, ms_app, toList_some, toList_none, if_true, if_false, true_and, and_true, cond_true, sm0, sm1, sm1l, sm2, lc_lt, lc_gt, lc_eq, Int.toNat_natCast, Int.reduceToNat, Nat.reduceAdd, Nat.reduceEqDiff, Int.reduceLT, Int.reduceEq, Int.reduceNeg, Int.reduceAdd, Int.reduceMul, Nat.reduceMul, ms_n, ms_i, ms_l, ms_p, PM, ec]
  refine cal_of rfl (m_qBracket q1.1 ?_)
  rw [hbk]
  simp (decide := true) only [RR, ms_app, toList_some, toList_none, if_true, if_false, true_and, and_true, cond_true, sm0, sm1, sm1l, sm2, lc_lt, lc_gt, lc_eq, Int.toNat_natCast, Int.reduceToNat, Nat.reduceAdd, Nat.reduceEqDiff, Int.reduceLT, Int.reduceEq, Int.reduceNeg, Int.reduceAdd, Int.reduceMul, Nat.reduceMul, ms_n, ms_i, ms_l, ms_p, PM]
  by_cases c20 : x = 20
  · rw [if_pos c20]; exact one
  · rw [if_neg c20]
    refine cal_of rfl (m_qBracket q1.1 ?_)
    rw [hbk]
    simp (decide := true) only [RR, ms_app, toList_some, toList_none, if_true, if_false, true_and, and_true, cond_true, sm0, sm1, sm1l, sm2, lc_lt, lc_gt, lc_eq, Int.toNat_natCast, Int.reduceToNat, Nat.reduceAdd, Nat.reduceEqDiff, Int.reduceLT, Int.reduceEq, Int.reduceNeg, Int.reduceAdd, Int.reduceMul, Nat.reduceMul, ms_n, ms_i, ms_l, ms_p, PM]
    by_cases c23 : x = 23
    · rw [if_pos c23]; exact one
    · rw [if_neg c23]
      refine cal_of rfl (m_qBracket q1.1 ?_)
      rw [hbk]
      simp (decide := true) only [RR, ms_app, toList_some, toList_none, if_true, if_false, true_and, and_true, cond_true, sm0, sm1, sm1l, sm2, lc_lt, lc_gt, lc_eq, Int.toNat_natCast, Int.reduceToNat, Nat.reduceAdd, Nat.reduceEqDiff, Int.reduceLT, Int.reduceEq, Int.reduceNeg, Int.reduceAdd, Int.reduceMul, Nat.reduceMul, ms_n, ms_i, ms_l, ms_p, PM]
      rw [if_pos (by omega)]
      exact one
end
