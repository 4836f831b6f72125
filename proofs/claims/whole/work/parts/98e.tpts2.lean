section
variable {d : Nat} {K : Option mV → mM → Prop} {σ σ0 : mM} {N : Nat} {t : Nat → Int} {s : Nat} {g : Bool} {rc ws : List Int} {o : Nat}
/-- behind a FACT that is bad -/
theorem T_bad {c : Int} (hb : σ 146 5 ≠ 0) (h : ∀ z, TS d z K σ) : At (d + 12) 254 4 [some (.inr (.inr 146)), some (.inl 1), some (.inl c)] [] σ K := by
  refine At.blk rfl rfl rfl fun sx => ?_
  simp (decide := true) only [RR, ms_app, toList_some, toList_none, if_true, if_false, true_and, and_true, cond_true, sm0, sm1, sm1l, sm2, lc_lt, lc_gt, lc_eq, Int.toNat_natCast, Int.reduceToNat, Nat.reduceAdd, Nat.reduceEqDiff, Int.reduceLT, Int.reduceEq, Int.reduceNeg, Int.reduceAdd, Int.reduceMul, Nat.reduceMul, ms_n, ms_i, ms_l, ms_p, PM]
  refine At.blk rfl rfl rfl fun sx => ?_
  simp (decide := true) only [RR, ms_app, toList_some, toList_none, if_true, if_false, true_and, and_true, cond_true, sm0, sm1, sm1l, sm2, lc_lt, lc_gt, lc_eq, Int.toNat_natCast, Int.reduceToNat, Nat.reduceAdd, Nat.reduceEqDiff, Int.reduceLT, Int.reduceEq, Int.reduceNeg, Int.reduceAdd, Int.reduceMul, Nat.reduceMul, ms_n, ms_i, ms_l, ms_p, PM]
  exact h 0 _
theorem T_all {e : Nat} (h : QT σ N t 2 s g rc ws [] o) (hi : IsWd N t s g e 21) (h1 : ∀ σ' s', QT σ' N t 2 s' (decide (s' = e)) (13 :: rc) ws [] o → Skp N t e s' → Fr fqL fqT σ σ' → TN d K σ') : TS d 1 K σ := by
  have hlt := h.2.1
  have hel := hi.lt (by decide)
  obtain ⟨sN, n16⟩ := h.le
  refine T_three h (hi.noS (by unfold sgn; omega)) (fun e2 h2 => absurd (hi.uniq h2 (by decide) (by decide)).2 (by decide)) (fun σ1 c q1 f1 => ?_)
  refine At.blk rfl rfl rfl fun sx => ?_
  simp (decide := true) only [RR, ms_app, toList_some, toList_none, if_true, if_false, true_and, and_true, cond_true, sm0, sm1, sm1l, sm2, lc_lt, lc_gt, lc_eq, Int.toNat_natCast, Int.reduceToNat, Nat.reduceAdd, Nat.reduceEqDiff, Int.reduceLT, Int.reduceEq, Int.reduceNeg, Int.reduceAdd, Int.reduceMul, Nat.reduceMul, ms_n, ms_i, ms_l, ms_p, PM]
  refine cal_of rfl (Mt.go (lv := [some (.inr (.inr 146)), none]) rfl rfl rfl ?_)
  refine At.blk rfl rfl rfl fun sx => ?_
  simp (decide := true) only [RR, ms_app, toList_some, toList_none, if_true, if_false, true_and, and_true, cond_true, sm0, sm1, sm1l, sm2, lc_lt, lc_gt, lc_eq, Int.toNat_natCast, Int.reduceToNat, Nat.reduceAdd, Nat.reduceEqDiff, Int.reduceLT, Int.reduceEq, Int.reduceNeg, Int.reduceAdd, Int.reduceMul, Nat.reduceMul, ms_n, ms_i, ms_l, ms_p, PM, fxM q1.1.1]
  refine cal_of rfl (m_takes (w := 21) (by decide) (wr_ask (203, 21) (by decide)) q1.1.1 q1.1.2.1 q1.1.2.2.1 q1.1.2.2.2.1 (fun σ2 e2 s2 f2 hi2 k2 p2 => ?_) (fun σ2 f2 p2 hi2 => absurd hi (hi2 e)))
  obtain ⟨rfl, -⟩ := hi.uniq hi2 (by decide) (by decide)
  have k21 := k2.1
  have q2 := q1.mv f2 p2 (by omega)
  simp (decide := true) only [RR, ms_app, toList_some, toList_none, if_true, if_false, true_and, and_true, cond_true, sm0, sm1, sm1l, sm2, lc_lt, lc_gt, lc_eq, Int.toNat_natCast, Int.reduceToNat, Nat.reduceAdd, Nat.reduceEqDiff, Int.reduceLT, Int.reduceEq, Int.reduceNeg, Int.reduceAdd, Int.reduceMul, Nat.reduceMul, ms_n, ms_i, ms_l, ms_p, PM]
  refine cal_of rfl (m_qCode (n := rc.length) q2.1.1 q2.1.2.2.2.2.2.1.1 (by omega) ?_)
  have q3 : QT (mj_set (mj_set σ2 214 rc.length 13) 146 89 ((rc.length + 1 : Nat) : Int)) N t 2 s2 (decide (s2 = e)) (13 :: rc) ws [] o := ⟨q2.1.code (by omega), by simp only [List.length_cons]; omega, q2.2.2⟩
  have hN := h1 _ s2 q3 k2 (((f1.trans (f2.mono rfl)).setr rfl).set rfl)
  simp (decide := true) only [RR, ms_app, toList_some, toList_none, if_true, if_false, true_and, and_true, cond_true, sm0, sm1, sm1l, sm2, lc_lt, lc_gt, lc_eq, Int.toNat_natCast, Int.reduceToNat, Nat.reduceAdd, Nat.reduceEqDiff, Int.reduceLT, Int.reduceEq, Int.reduceNeg, Int.reduceAdd, Int.reduceMul, Nat.reduceMul, ms_n, ms_i, ms_l, ms_p, PM]
  refine TN_go (dd := d + 6) hN (fun σ4 e4 g4 => ?_)
  simp (decide := true) only [RR, ms_app, toList_some, toList_none, if_true, if_false, true_and, and_true, cond_true, sm0, sm1, sm1l, sm2, lc_lt, lc_gt, lc_eq, Int.toNat_natCast, Int.reduceToNat, Nat.reduceAdd, Nat.reduceEqDiff, Int.reduceLT, Int.reduceEq, Int.reduceNeg, Int.reduceAdd, Int.reduceMul, Nat.reduceMul, ms_n, ms_i, ms_l, ms_p, PM, e4]
  refine cal_of rfl ((Mt.go (lv := [some (.inr (.inr 146))]) rfl rfl rfl g4).mono (fun r σ5 e5 => ?_))
  obtain ⟨z, rfl, hz, hS⟩ := e5
  rcases hz with rfl | rfl
  · simp (decide := true) only [RR, ms_app, toList_some, toList_none, if_true, if_false, true_and, and_true, cond_true, sm0, sm1, sm1l, sm2, lc_lt, lc_gt, lc_eq, Int.toNat_natCast, Int.reduceToNat, Nat.reduceAdd, Nat.reduceEqDiff, Int.reduceLT, Int.reduceEq, Int.reduceNeg, Int.reduceAdd, Int.reduceMul, Nat.reduceMul, ms_n, ms_i, ms_l, ms_p, PM]
    refine At.blk rfl rfl rfl fun sx => ?_
    simp (decide := true) only [RR, ms_app, toList_some, toList_none, if_true, if_false, true_and, and_true, cond_true, sm0, sm1, sm1l, sm2, lc_lt, lc_gt, lc_eq, Int.toNat_natCast, Int.reduceToNat, Nat.reduceAdd, Nat.reduceEqDiff, Int.reduceLT, Int.reduceEq, Int.reduceNeg, Int.reduceAdd, Int.reduceMul, Nat.reduceMul, ms_n, ms_i, ms_l, ms_p, PM]
    refine At.blk rfl rfl rfl fun sx => ?_
    simp (decide := true) only [RR, ms_app, toList_some, toList_none, if_true, if_false, true_and, and_true, cond_true, sm0, sm1, sm1l, sm2, lc_lt, lc_gt, lc_eq, Int.toNat_natCast, Int.reduceToNat, Nat.reduceAdd, Nat.reduceEqDiff, Int.reduceLT, Int.reduceEq, Int.reduceNeg, Int.reduceAdd, Int.reduceMul, Nat.reduceMul, ms_n, ms_i, ms_l, ms_p, PM]
    exact hS _
  · simp (decide := true) only [RR, ms_app, toList_some, toList_none, if_true, if_false, true_and, and_true, cond_true, sm0, sm1, sm1l, sm2, lc_lt, lc_gt, lc_eq, Int.toNat_natCast, Int.reduceToNat, Nat.reduceAdd, Nat.reduceEqDiff, Int.reduceLT, Int.reduceEq, Int.reduceNeg, Int.reduceAdd, Int.reduceMul, Nat.reduceMul, ms_n, ms_i, ms_l, ms_p, PM]
    refine At.blk rfl rfl rfl fun sx => ?_
    simp (decide := true) only [RR, ms_app, toList_some, toList_none, if_true, if_false, true_and, and_true, cond_true, sm0, sm1, sm1l, sm2, lc_lt, lc_gt, lc_eq, Int.toNat_natCast, Int.reduceToNat, Nat.reduceAdd, Nat.reduceEqDiff, Int.reduceLT, Int.reduceEq, Int.reduceNeg, Int.reduceAdd, Int.reduceMul, Nat.reduceMul, ms_n, ms_i, ms_l, ms_p, PM]
    exact hS _
/-- sum, sign, sum: up to where the class comes -/
theorem T_cmp (h : QT σ N t 2 s g rc ws [] o) (hx : ¬(1 ≤ ws.headD 0 ∧ ws.headD 0 ≤ 4)) (hi : ¬IsSg N t s 91) (hn : ∀ e, ¬IsWd N t s g e 20) (ha : ∀ e, ¬IsWd N t s g e 21)
    (hS : (∃ k p, SSno N t 2 o s g k p ∧ TB d K σ k p) ∨ ∃ s1 g1 cs1, SSok N t 2 o s g s1 g1 cs1 ∧ noOp N t s1 ∧ s < s1 ∧ ((¬IsSg N t s1 60 ∧ ¬IsSg N t s1 62 ∧ ¬IsSg N t s1 61 ∧ TB d K σ 1 (s1 : Int)) ∨ ∃ c v s2, (c = 60 ∧ v = 7 ∨ c = 62 ∧ v = 8 ∨ c = 61 ∧ v = 9) ∧ IsSg N t s1 c ∧ Skp N t (s1 + 1) s2 ∧
      ((∃ k p, SSno N t 2 o s2 false k p ∧ TB d K σ k p) ∨ ∃ s3 g3 cs3, SSok N t 2 o s2 false s3 g3 cs3 ∧ noOp N t s3 ∧ s2 < s3 ∧ cs3.length ≤ s3 - s2 ∧ ∀ σ', QT σ' N t 2 s3 g3 ((cs1 ++ cs3 ++ [v]).reverse ++ rc) ws [] o → Fr fqL fqT σ σ' → TN d K σ'))) : TS d 1 K σ := by
  have hlt := h.2.1
  obtain ⟨sN, n16⟩ := h.le
  refine T_three h hi hn (fun σ1 cc q1 f1 => ?_)
  -- bad: both walk out
  have bad : ∀ σ', σ' 146 5 ≠ 0 → (∀ z, TS d z K σ') → mj_cal (d + 12) 218 253 [.inr (.inr 146)] 218 σ' (fun r n σ2 => r = none ∧ n = 218 ∧ σ2 = σ') := by
    intro σ' hb hz
    refine cal_of rfl (Mt.go (lv := [some (.inr (.inr 146))]) rfl rfl rfl ?_)
    refine At.blk rfl rfl rfl fun sx => ?_
    simp (decide := true) only [RR, ms_app, toList_some, toList_none, if_true, if_false, true_and, and_true, cond_true, sm0, sm1, sm1l, sm2, lc_lt, lc_gt, lc_eq, Int.toNat_natCast, Int.reduceToNat, Nat.reduceAdd, Nat.reduceEqDiff, Int.reduceLT, Int.reduceEq, Int.reduceNeg, Int.reduceAdd, Int.reduceMul, Nat.reduceMul, ms_n, ms_i, ms_l, ms_p, PM]
    rw [if_neg hb]
    refine At.blk rfl rfl rfl fun sx => ?_
    simp (decide := true) only [RR, ms_app, toList_some, toList_none, if_true, if_false, true_and, and_true, cond_true, sm0, sm1, sm1l, sm2, lc_lt, lc_gt, lc_eq, Int.toNat_natCast, Int.reduceToNat, Nat.reduceAdd, Nat.reduceEqDiff, Int.reduceLT, Int.reduceEq, Int.reduceNeg, Int.reduceAdd, Int.reduceMul, Nat.reduceMul, ms_n, ms_i, ms_l, ms_p, PM]
  refine At.blk rfl rfl rfl fun sx => ?_
  simp (decide := true) only [RR, ms_app, toList_some, toList_none, if_true, if_false, true_and, and_true, cond_true, sm0, sm1, sm1l, sm2, lc_lt, lc_gt, lc_eq, Int.toNat_natCast, Int.reduceToNat, Nat.reduceAdd, Nat.reduceEqDiff, Int.reduceLT, Int.reduceEq, Int.reduceNeg, Int.reduceAdd, Int.reduceMul, Nat.reduceMul, ms_n, ms_i, ms_l, ms_p, PM]
  refine cal_of rfl (Mt.mono (K := fun r σ' => r = none ∧ ((σ' 146 5 = 0 ∧ TN d K σ') ∨ (σ' 146 5 ≠ 0 ∧ ∀ z, TS d z K σ'))) (Mt.go (lv := [some (.inr (.inr 146)), none]) rfl rfl rfl ?_) (fun r σ' e => ?_))
  · refine At.blk rfl rfl rfl fun sx => ?_
    simp (decide := true) only [RR, ms_app, toList_some, toList_none, if_true, if_false, true_and, and_true, cond_true, sm0, sm1, sm1l, sm2, lc_lt, lc_gt, lc_eq, Int.toNat_natCast, Int.reduceToNat, Nat.reduceAdd, Nat.reduceEqDiff, Int.reduceLT, Int.reduceEq, Int.reduceNeg, Int.reduceAdd, Int.reduceMul, Nat.reduceMul, ms_n, ms_i, ms_l, ms_p, PM, fxM q1.1.1]
    refine cal_of rfl (m_takes (w := 21) (by decide) (wr_ask (203, 21) (by decide)) q1.1.1 q1.1.2.1 q1.1.2.2.1 q1.1.2.2.2.1 (fun σ2 e2 s2 f2 hi2 k2 p2 => absurd hi2 (ha e2)) (fun σ2 f2 p2 hi2 => ?_))
    have q2 := q1.lk f2 p2
    have f12 := f1.trans (f2.mono (L' := fqL) (T' := fqT) rfl)
    simp (decide := true) only [RR, ms_app, toList_some, toList_none, if_true, if_false, true_and, and_true, cond_true, sm0, sm1, sm1l, sm2, lc_lt, lc_gt, lc_eq, Int.toNat_natCast, Int.reduceToNat, Nat.reduceAdd, Nat.reduceEqDiff, Int.reduceLT, Int.reduceEq, Int.reduceNeg, Int.reduceAdd, Int.reduceMul, Nat.reduceMul, ms_n, ms_i, ms_l, ms_p, PM]
    refine At.blk rfl rfl rfl fun sx => ?_
    simp (decide := true) only [RR, ms_app, toList_some, toList_none, if_true, if_false, true_and, and_true, cond_true, sm0, sm1, sm1l, sm2, lc_lt, lc_gt, lc_eq, Int.toNat_natCast, Int.reduceToNat, Nat.reduceAdd, Nat.reduceEqDiff, Int.reduceLT, Int.reduceEq, Int.reduceNeg, Int.reduceAdd, Int.reduceMul, Nat.reduceMul, ms_n, ms_i, ms_l, ms_p, PM]
    rcases hS with ⟨k, p, hno, hTB⟩ | ⟨s1, g1, cs1, hok, no1, hs1, hS⟩
    · refine cal_of rfl (m_sum_no q2 hx hno (fun σ3 e5 e6 f3 _ => ?_))
      have hb : σ3 146 5 ≠ 0 := by rw [e5]; exact hno.1
      simp (decide := true) only [RR, ms_app, toList_some, toList_none, if_true, if_false, true_and, and_true, cond_true, sm0, sm1, sm1l, sm2, lc_lt, lc_gt, lc_eq, Int.toNat_natCast, Int.reduceToNat, Nat.reduceAdd, Nat.reduceEqDiff, Int.reduceLT, Int.reduceEq, Int.reduceNeg, Int.reduceAdd, Int.reduceMul, Nat.reduceMul, ms_n, ms_i, ms_l, ms_p, PM]
      rw [if_neg hb]
      exact Or.inr ⟨hb, fun z => hTB.2 σ3 z e5 e6 (f12.trans f3)⟩
    · refine cal_of rfl (m_sum_ok q2 hx hok no1 (fun σ3 q3 f3 => ?_))
      have F3 := f12.trans f3
      obtain ⟨s1N, -⟩ := q3.le
      have hlt3 := q3.2.1
      simp (decide := true) only [RR, ms_app, toList_some, toList_none, if_true, if_false, true_and, and_true, cond_true, sm0, sm1, sm1l, sm2, lc_lt, lc_gt, lc_eq, Int.toNat_natCast, Int.reduceToNat, Nat.reduceAdd, Nat.reduceEqDiff, Int.reduceLT, Int.reduceEq, Int.reduceNeg, Int.reduceAdd, Int.reduceMul, Nat.reduceMul, ms_n, ms_i, ms_l, ms_p, PM, q3.1.2.2.1]
      refine At.blk rfl rfl rfl fun sx => ?_
      simp (decide := true) only [RR, ms_app, toList_some, toList_none, if_true, if_false, true_and, and_true, cond_true, sm0, sm1, sm1l, sm2, lc_lt, lc_gt, lc_eq, Int.toNat_natCast, Int.reduceToNat, Nat.reduceAdd, Nat.reduceEqDiff, Int.reduceLT, Int.reduceEq, Int.reduceNeg, Int.reduceAdd, Int.reduceMul, Nat.reduceMul, ms_n, ms_i, ms_l, ms_p, PM]
      refine cal_of rfl (m_look q3.1.1 q3.1.2.1 q3.1.2.2.2.1 (fun σ4 f4 p4 => ?_))
      have q4 := q3.lk f4 p4
      have F4 := F3.trans (f4.mono (L' := fqL) (T' := fqT) rfl)
      have cE : ∀ c : Int, 0 ≤ c → (chr0 N t s1 = c ↔ IsSg N t s1 c) := fun c hc => by
        unfold chr0 IsSg
        by_cases h2 : s1 < N
        · rw [if_pos h2]; exact ⟨fun e => ⟨h2, e⟩, fun e => e.2⟩
        · rw [if_neg h2]; exact ⟨fun e => by omega, fun e => absurd e.1 h2⟩
      simp (decide := true) only [RR, ms_app, toList_some, toList_none, if_true, if_false, true_and, and_true, cond_true, sm0, sm1, sm1l, sm2, lc_lt, lc_gt, lc_eq, Int.toNat_natCast, Int.reduceToNat, Nat.reduceAdd, Nat.reduceEqDiff, Int.reduceLT, Int.reduceEq, Int.reduceNeg, Int.reduceAdd, Int.reduceMul, Nat.reduceMul, ms_n, ms_i, ms_l, ms_p, PM]
      rcases hS with ⟨n60, n62, n61, hTB⟩ | ⟨c, v, s2, hcv, hc, k2, hS⟩
      · rw [if_neg (fun e => n60 ((cE 60 (by decide)).mp e)), if_neg (fun e => n62 ((cE 62 (by decide)).mp e)), if_neg (fun e => n61 ((cE 61 (by decide)).mp e)), p4.1]
        refine cal_of rfl (m_fail q4.1.2.2.1 ?_)
        simp (decide := true) only [RR, ms_app, toList_some, toList_none, if_true, if_false, true_and, and_true, cond_true, sm0, sm1, sm1l, sm2, lc_lt, lc_gt, lc_eq, Int.toNat_natCast, Int.reduceToNat, Nat.reduceAdd, Nat.reduceEqDiff, Int.reduceLT, Int.reduceEq, Int.reduceNeg, Int.reduceAdd, Int.reduceMul, Nat.reduceMul, ms_n, ms_i, ms_l, ms_p, PM]
        exact Or.inr (fun z => hTB.2 _ z rfl rfl ((F4.set rfl).set rfl))
      · have hc1 := hc.1
        have k21 := k2.1
        have ec : chr0 N t s1 = c := (cE c (by omega)).mpr hc
        have w0 : Unit → w32 ((s1 : Int) + 1) = ((s1 + 1 : Nat) : Int) := fun _ => by rw [w32_small (by omega) (by omega)]; omega
        have three : At (d + 11) 251 3 [some (.inr (.inr 146)), some (.inl c)] [] σ4 (fun r σ' => r = none ∧ ((σ' 146 5 = 0 ∧ TN d K σ') ∨ (σ' 146 5 ≠ 0 ∧ ∀ z, TS d z K σ'))) := by
          have q5 : QT (mj_set σ4 146 2 ((s1 + 1 : Nat) : Int)) N t 2 s2 false (cs1.reverse ++ rc) ws [] o := q4.mv (Fr.same.set rfl) (p4.step k2) (by omega)
          have F5 : Fr fqL fqT σ (mj_set σ4 146 2 ((s1 + 1 : Nat) : Int)) := F4.set rfl
          have code : ∀ (σ6 : mM) (n : Nat), Fix σ6 → σ6 146 89 = (n : Int) → n < 1700 → (∀ σ', σ' = mj_set (mj_set σ6 214 n v) 146 89 ((n + 1 : Nat) : Int) → (σ' 146 5 = 0 ∧ TN d K σ') ∨ (σ' 146 5 ≠ 0 ∧ ∀ z, TS d z K σ')) → At (d + 11) 251 6 [some (.inr (.inr 146)), some (.inl c)] [.inl v, .inr (.inr 146)] σ6 (fun r σ' => r = none ∧ ((σ' 146 5 = 0 ∧ TN d K σ') ∨ (σ' 146 5 ≠ 0 ∧ ∀ z, TS d z K σ'))) := by
            intro σ6 n hF6 hn6 hn7 hfin
            refine At.blk rfl rfl rfl fun sx => ?_
            simp (decide := true) only [RR, ms_app, toList_some, toList_none, if_true, if_false, true_and, and_true, cond_true, sm0, sm1, sm1l, sm2, lc_lt, lc_gt, lc_eq, Int.toNat_natCast, Int.reduceToNat, Nat.reduceAdd, Nat.reduceEqDiff, Int.reduceLT, Int.reduceEq, Int.reduceNeg, Int.reduceAdd, Int.reduceMul, Nat.reduceMul, ms_n, ms_i, ms_l, ms_p, PM]
            refine cal_of rfl (m_qCode (n := n) hF6 hn6 hn7 ?_)
            have := hfin _ rfl
            simp (decide := true) only [RR, ms_app, toList_some, toList_none, if_true, if_false, true_and, and_true, cond_true, sm0, sm1, sm1l, sm2, lc_lt, lc_gt, lc_eq, Int.toNat_natCast, Int.reduceToNat, Nat.reduceAdd, Nat.reduceEqDiff, Int.reduceLT, Int.reduceEq, Int.reduceNeg, Int.reduceAdd, Int.reduceMul, Nat.reduceMul, ms_n, ms_i, ms_l, ms_p, PM]
            exact this
          have four : ∀ (σ6 : mM), At (d + 11) 251 6 [some (.inr (.inr 146)), some (.inl c)] [.inl v, .inr (.inr 146)] σ6 (fun r σ' => r = none ∧ ((σ' 146 5 = 0 ∧ TN d K σ') ∨ (σ' 146 5 ≠ 0 ∧ ∀ z, TS d z K σ'))) → (if c = 60 then At (d + 11) 251 6 [some (.inr (.inr 146)), some (.inl c)] [.inl 7, .inr (.inr 146)] σ6 (fun r σ' => r = none ∧ ((σ' 146 5 = 0 ∧ TN d K σ') ∨ (σ' 146 5 ≠ 0 ∧ ∀ z, TS d z K σ'))) else At (d + 11) 251 4 [some (.inr (.inr 146)), some (.inl c)] [.inr (.inr 146)] σ6 (fun r σ' => r = none ∧ ((σ' 146 5 = 0 ∧ TN d K σ') ∨ (σ' 146 5 ≠ 0 ∧ ∀ z, TS d z K σ')))) := by
            intro σ6 h6
            rcases hcv with ⟨rfl, rfl⟩ | ⟨rfl, rfl⟩ | ⟨rfl, rfl⟩
            · rw [if_pos rfl]; exact h6
            · rw [if_neg (by decide)]
              refine At.blk rfl rfl rfl fun sx => ?_
              simp (decide := true) only [RR, ms_app, toList_some, toList_none, if_true, if_false, true_and, and_true, cond_true, sm0, sm1, sm1l, sm2, lc_lt, lc_gt, lc_eq, Int.toNat_natCast, Int.reduceToNat, Nat.reduceAdd, Nat.reduceEqDiff, Int.reduceLT, Int.reduceEq, Int.reduceNeg, Int.reduceAdd, Int.reduceMul, Nat.reduceMul, ms_n, ms_i, ms_l, ms_p, PM]
              exact h6
            · rw [if_neg (by decide)]
              refine At.blk rfl rfl rfl fun sx => ?_
              simp (decide := true) only [RR, ms_app, toList_some, toList_none, if_true, if_false, true_and, and_true, cond_true, sm0, sm1, sm1l, sm2, lc_lt, lc_gt, lc_eq, Int.toNat_natCast, Int.reduceToNat, Nat.reduceAdd, Nat.reduceEqDiff, Int.reduceLT, Int.reduceEq, Int.reduceNeg, Int.reduceAdd, Int.reduceMul, Nat.reduceMul, ms_n, ms_i, ms_l, ms_p, PM]
              refine At.blk rfl rfl rfl fun sx => ?_
              simp (decide := true) only [RR, ms_app, toList_some, toList_none, if_true, if_false, true_and, and_true, cond_true, sm0, sm1, sm1l, sm2, lc_lt, lc_gt, lc_eq, Int.toNat_natCast, Int.reduceToNat, Nat.reduceAdd, Nat.reduceEqDiff, Int.reduceLT, Int.reduceEq, Int.reduceNeg, Int.reduceAdd, Int.reduceMul, Nat.reduceMul, ms_n, ms_i, ms_l, ms_p, PM]
              exact h6
          refine At.blk rfl rfl rfl fun sx => ?_
          simp (decide := true) only [RR, ms_app, toList_some, toList_none, if_true, if_false, true_and, and_true, cond_true, sm0, sm1, sm1l, sm2, lc_lt, lc_gt, lc_eq, Int.toNat_natCast, Int.reduceToNat, Nat.reduceAdd, Nat.reduceEqDiff, Int.reduceLT, Int.reduceEq, Int.reduceNeg, Int.reduceAdd, Int.reduceMul, Nat.reduceMul, ms_n, ms_i, ms_l, ms_p, PM, p4.1, w0 ()]
          rcases hS with ⟨k, p, hno, hTB⟩ | ⟨s3, g3, cs3, hok3, no3, hs3, hl3, hfin⟩
          · refine cal_of rfl (m_sum_no q5 hx hno (fun σ6 e5 e6 f6 c6 => ?_))
            have hb : σ6 146 5 ≠ 0 := by rw [e5]; exact hno.1
            have hF6 : Fix σ6 := q5.1.1.fr f6 rfl
            obtain ⟨n, n1, n2⟩ := c6
            simp (decide := true) only [RR, ms_app, toList_some, toList_none, if_true, if_false, true_and, and_true, cond_true, sm0, sm1, sm1l, sm2, lc_lt, lc_gt, lc_eq, Int.toNat_natCast, Int.reduceToNat, Nat.reduceAdd, Nat.reduceEqDiff, Int.reduceLT, Int.reduceEq, Int.reduceNeg, Int.reduceAdd, Int.reduceMul, Nat.reduceMul, ms_n, ms_i, ms_l, ms_p, PM]
            refine four σ6 (code σ6 n hF6 n1 (by omega) (fun σ' e => ?_))
            subst e
            exact Or.inr ⟨hb, fun z => hTB.2 _ z e5 e6 (((F5.trans f6).setr rfl).set rfl)⟩
          · refine cal_of rfl (m_sum_ok q5 hx hok3 no3 (fun σ6 q6 f6 => ?_))
            obtain ⟨s3N, -⟩ := q6.le
            have hlt6 := q6.2.1
            simp (decide := true) only [RR, ms_app, toList_some, toList_none, if_true, if_false, true_and, and_true, cond_true, sm0, sm1, sm1l, sm2, lc_lt, lc_gt, lc_eq, Int.toNat_natCast, Int.reduceToNat, Nat.reduceAdd, Nat.reduceEqDiff, Int.reduceLT, Int.reduceEq, Int.reduceNeg, Int.reduceAdd, Int.reduceMul, Nat.reduceMul, ms_n, ms_i, ms_l, ms_p, PM]
            refine four σ6 (code σ6 _ q6.1.1 q6.1.2.2.2.2.2.1.1 (by omega) (fun σ' e => ?_))
            subst e
            refine Or.inl ⟨q6.1.2.2.1, hfin _ ⟨?_, ?_, q6.2.2⟩ (((F5.trans f6).setr rfl).set rfl)⟩
            · rw [show (cs1 ++ cs3 ++ [v]).reverse ++ rc = v :: (cs3.reverse ++ (cs1.reverse ++ rc)) by simp [List.append_assoc]]
              exact q6.1.code (by omega)
            · simp only [List.length_append, List.length_reverse, List.length_cons, List.length_nil] at hlt3 hlt6 ⊢
              omega
        rw [ec]
        rcases hcv with ⟨rfl, _⟩ | ⟨rfl, _⟩ | ⟨rfl, _⟩
        · rw [if_pos rfl]; exact three
        · rw [if_neg (by decide), if_pos rfl]; exact three
        · rw [if_neg (by decide), if_neg (by decide), if_pos rfl]; exact three
  · obtain ⟨rfl, ⟨e1, e2⟩ | ⟨e1, e2⟩⟩ := e
    · simp (decide := true) only [RR, ms_app, toList_some, toList_none, if_true, if_false, true_and, and_true, cond_true, sm0, sm1, sm1l, sm2, lc_lt, lc_gt, lc_eq, Int.toNat_natCast, Int.reduceToNat, Nat.reduceAdd, Nat.reduceEqDiff, Int.reduceLT, Int.reduceEq, Int.reduceNeg, Int.reduceAdd, Int.reduceMul, Nat.reduceMul, ms_n, ms_i, ms_l, ms_p, PM]
      refine TN_go (dd := d + 6) e2 (fun σ4 e4 g4 => ?_)
      simp (decide := true) only [RR, ms_app, toList_some, toList_none, if_true, if_false, true_and, and_true, cond_true, sm0, sm1, sm1l, sm2, lc_lt, lc_gt, lc_eq, Int.toNat_natCast, Int.reduceToNat, Nat.reduceAdd, Nat.reduceEqDiff, Int.reduceLT, Int.reduceEq, Int.reduceNeg, Int.reduceAdd, Int.reduceMul, Nat.reduceMul, ms_n, ms_i, ms_l, ms_p, PM, e4]
      refine cal_of rfl ((Mt.go (lv := [some (.inr (.inr 146))]) rfl rfl rfl g4).mono (fun r σ5 e5 => ?_))
      obtain ⟨z, rfl, hz, hS⟩ := e5
      rcases hz with rfl | rfl
      · simp (decide := true) only [RR, ms_app, toList_some, toList_none, if_true, if_false, true_and, and_true, cond_true, sm0, sm1, sm1l, sm2, lc_lt, lc_gt, lc_eq, Int.toNat_natCast, Int.reduceToNat, Nat.reduceAdd, Nat.reduceEqDiff, Int.reduceLT, Int.reduceEq, Int.reduceNeg, Int.reduceAdd, Int.reduceMul, Nat.reduceMul, ms_n, ms_i, ms_l, ms_p, PM]
        refine At.blk rfl rfl rfl fun sx => ?_
        simp (decide := true) only [RR, ms_app, toList_some, toList_none, if_true, if_false, true_and, and_true, cond_true, sm0, sm1, sm1l, sm2, lc_lt, lc_gt, lc_eq, Int.toNat_natCast, Int.reduceToNat, Nat.reduceAdd, Nat.reduceEqDiff, Int.reduceLT, Int.reduceEq, Int.reduceNeg, Int.reduceAdd, Int.reduceMul, Nat.reduceMul, ms_n, ms_i, ms_l, ms_p, PM]
        refine At.blk rfl rfl rfl fun sx => ?_
        simp (decide := true) only [RR, ms_app, toList_some, toList_none, if_true, if_false, true_and, and_true, cond_true, sm0, sm1, sm1l, sm2, lc_lt, lc_gt, lc_eq, Int.toNat_natCast, Int.reduceToNat, Nat.reduceAdd, Nat.reduceEqDiff, Int.reduceLT, Int.reduceEq, Int.reduceNeg, Int.reduceAdd, Int.reduceMul, Nat.reduceMul, ms_n, ms_i, ms_l, ms_p, PM]
        exact hS _
      · simp (decide := true) only [RR, ms_app, toList_some, toList_none, if_true, if_false, true_and, and_true, cond_true, sm0, sm1, sm1l, sm2, lc_lt, lc_gt, lc_eq, Int.toNat_natCast, Int.reduceToNat, Nat.reduceAdd, Nat.reduceEqDiff, Int.reduceLT, Int.reduceEq, Int.reduceNeg, Int.reduceAdd, Int.reduceMul, Nat.reduceMul, ms_n, ms_i, ms_l, ms_p, PM]
        refine At.blk rfl rfl rfl fun sx => ?_
        simp (decide := true) only [RR, ms_app, toList_some, toList_none, if_true, if_false, true_and, and_true, cond_true, sm0, sm1, sm1l, sm2, lc_lt, lc_gt, lc_eq, Int.toNat_natCast, Int.reduceToNat, Nat.reduceAdd, Nat.reduceEqDiff, Int.reduceLT, Int.reduceEq, Int.reduceNeg, Int.reduceAdd, Int.reduceMul, Nat.reduceMul, ms_n, ms_i, ms_l, ms_p, PM]
        exact hS _
    · simp (decide := true) only [RR, ms_app, toList_some, toList_none, if_true, if_false, true_and, and_true, cond_true, sm0, sm1, sm1l, sm2, lc_lt, lc_gt, lc_eq, Int.toNat_natCast, Int.reduceToNat, Nat.reduceAdd, Nat.reduceEqDiff, Int.reduceLT, Int.reduceEq, Int.reduceNeg, Int.reduceAdd, Int.reduceMul, Nat.reduceMul, ms_n, ms_i, ms_l, ms_p, PM]
      refine cal_of rfl (Mt.go (lv := [some (.inr (.inr 146))]) rfl rfl rfl ?_)
      refine At.blk rfl rfl rfl fun sx => ?_
      simp (decide := true) only [RR, ms_app, toList_some, toList_none, if_true, if_false, true_and, and_true, cond_true, sm0, sm1, sm1l, sm2, lc_lt, lc_gt, lc_eq, Int.toNat_natCast, Int.reduceToNat, Nat.reduceAdd, Nat.reduceEqDiff, Int.reduceLT, Int.reduceEq, Int.reduceNeg, Int.reduceAdd, Int.reduceMul, Nat.reduceMul, ms_n, ms_i, ms_l, ms_p, PM]
      rw [if_neg e1]
      refine At.blk rfl rfl rfl fun sx => ?_
      simp (decide := true) only [RR, ms_app, toList_some, toList_none, if_true, if_false, true_and, and_true, cond_true, sm0, sm1, sm1l, sm2, lc_lt, lc_gt, lc_eq, Int.toNat_natCast, Int.reduceToNat, Nat.reduceAdd, Nat.reduceEqDiff, Int.reduceLT, Int.reduceEq, Int.reduceNeg, Int.reduceAdd, Int.reduceMul, Nat.reduceMul, ms_n, ms_i, ms_l, ms_p, PM]
      rw [if_neg e1]
      exact T_bad e1 e2
end
