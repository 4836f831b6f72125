section
variable {d : Nat} {was : Int} {K : Option mV → mM → Prop} {σ σ0 : mM} {N : Nat} {t : Nat → Int} {tk : Int} {s : Nat} {g : Bool} {rc up dn : List Int} {o : Nat}
theorem QmS.hd {x : Int} (h : QmS σ N t tk s g rc (x :: up) dn o) : (x :: up ++ dn).headD 0 = x := rfl
theorem QS_go (hb : σ 146 5 = 0) (h : QA d was K σ) : QS d was 1 K σ := by
  unfold QS
  refine At.blk rfl rfl rfl fun sx => ?_
  simp (decide := true) only [RR, ms_app, toList_some, toList_none, if_true, if_false, true_and, and_true, cond_true, sm0, sm1, sm1l, sm2, lc_lt, lc_gt, lc_eq, Int.toNat_natCast, Int.reduceToNat, Nat.reduceAdd, Nat.reduceEqDiff, Int.reduceLT, Int.reduceEq, Int.reduceNeg, Int.reduceAdd, Int.reduceMul, Nat.reduceMul, ms_n, ms_i, ms_l, ms_p, PM, hb]
  refine cal_of rfl ((Mt.go (lv := [some (.inr (.inr 146)), none, none, none, none, none]) rfl rfl rfl (K := QK d was K) ?_).mono (fun r σ' e => ?_))
  · refine At.blk rfl rfl rfl fun sx => ?_
    simp (decide := true) only [RR, ms_app, toList_some, toList_none, if_true, if_false, true_and, and_true, cond_true, sm0, sm1, sm1l, sm2, lc_lt, lc_gt, lc_eq, Int.toNat_natCast, Int.reduceToNat, Nat.reduceAdd, Nat.reduceEqDiff, Int.reduceLT, Int.reduceEq, Int.reduceNeg, Int.reduceAdd, Int.reduceMul, Nat.reduceMul, ms_n, ms_i, ms_l, ms_p, PM]
    exact h _ _ _ _
  · obtain ⟨rfl, e1, e2⟩ := e
    simp (decide := true) only [RR, ms_app, toList_some, toList_none, if_true, if_false, true_and, and_true, cond_true, sm0, sm1, sm1l, sm2, lc_lt, lc_gt, lc_eq, Int.toNat_natCast, Int.reduceToNat, Nat.reduceAdd, Nat.reduceEqDiff, Int.reduceLT, Int.reduceEq, Int.reduceNeg, Int.reduceAdd, Int.reduceMul, Nat.reduceMul, ms_n, ms_i, ms_l, ms_p, PM]
    by_cases c : σ' 146 5 = 0
    · rw [if_pos c]
      refine cal_of rfl ((Mt.go (lv := [some (.inr (.inr 146)), none]) rfl rfl rfl (e1 c none)).mono (fun r σ2 e3 => ?_))
      obtain ⟨z, rfl, hz, hS⟩ := e3
      unfold QS at hS
      rcases hz with rfl | rfl
      · simp (decide := true) only [RR, ms_app, toList_some, toList_none, if_true, if_false, true_and, and_true, cond_true, sm0, sm1, sm1l, sm2, lc_lt, lc_gt, lc_eq, Int.toNat_natCast, Int.reduceToNat, Nat.reduceAdd, Nat.reduceEqDiff, Int.reduceLT, Int.reduceEq, Int.reduceNeg, Int.reduceAdd, Int.reduceMul, Nat.reduceMul, ms_n, ms_i, ms_l, ms_p, PM]
        refine At.blk rfl rfl rfl fun sx => ?_
        simp (decide := true) only [RR, ms_app, toList_some, toList_none, if_true, if_false, true_and, and_true, cond_true, sm0, sm1, sm1l, sm2, lc_lt, lc_gt, lc_eq, Int.toNat_natCast, Int.reduceToNat, Nat.reduceAdd, Nat.reduceEqDiff, Int.reduceLT, Int.reduceEq, Int.reduceNeg, Int.reduceAdd, Int.reduceMul, Nat.reduceMul, ms_n, ms_i, ms_l, ms_p, PM]
        refine At.blk rfl rfl rfl fun sx => ?_
        simp (decide := true) only [RR, ms_app, toList_some, toList_none, if_true, if_false, true_and, and_true, cond_true, sm0, sm1, sm1l, sm2, lc_lt, lc_gt, lc_eq, Int.toNat_natCast, Int.reduceToNat, Nat.reduceAdd, Nat.reduceEqDiff, Int.reduceLT, Int.reduceEq, Int.reduceNeg, Int.reduceAdd, Int.reduceMul, Nat.reduceMul, ms_n, ms_i, ms_l, ms_p, PM]
        exact hS
      · simp (decide := true) only [RR, ms_app, toList_some, toList_none, if_true, if_false, true_and, and_true, cond_true, sm0, sm1, sm1l, sm2, lc_lt, lc_gt, lc_eq, Int.toNat_natCast, Int.reduceToNat, Nat.reduceAdd, Nat.reduceEqDiff, Int.reduceLT, Int.reduceEq, Int.reduceNeg, Int.reduceAdd, Int.reduceMul, Nat.reduceMul, ms_n, ms_i, ms_l, ms_p, PM]
        refine At.blk rfl rfl rfl fun sx => ?_
        simp (decide := true) only [RR, ms_app, toList_some, toList_none, if_true, if_false, true_and, and_true, cond_true, sm0, sm1, sm1l, sm2, lc_lt, lc_gt, lc_eq, Int.toNat_natCast, Int.reduceToNat, Nat.reduceAdd, Nat.reduceEqDiff, Int.reduceLT, Int.reduceEq, Int.reduceNeg, Int.reduceAdd, Int.reduceMul, Nat.reduceMul, ms_n, ms_i, ms_l, ms_p, PM]
        exact hS
    · rw [if_neg c]
      have hS := e2 c
      unfold QS at hS
      refine At.blk rfl rfl rfl fun sx => ?_
      simp (decide := true) only [RR, ms_app, toList_some, toList_none, if_true, if_false, true_and, and_true, cond_true, sm0, sm1, sm1l, sm2, lc_lt, lc_gt, lc_eq, Int.toNat_natCast, Int.reduceToNat, Nat.reduceAdd, Nat.reduceEqDiff, Int.reduceLT, Int.reduceEq, Int.reduceNeg, Int.reduceAdd, Int.reduceMul, Nat.reduceMul, ms_n, ms_i, ms_l, ms_p, PM]
      refine At.blk rfl rfl rfl fun sx => ?_
      simp (decide := true) only [RR, ms_app, toList_some, toList_none, if_true, if_false, true_and, and_true, cond_true, sm0, sm1, sm1l, sm2, lc_lt, lc_gt, lc_eq, Int.toNat_natCast, Int.reduceToNat, Nat.reduceAdd, Nat.reduceEqDiff, Int.reduceLT, Int.reduceEq, Int.reduceNeg, Int.reduceAdd, Int.reduceMul, Nat.reduceMul, ms_n, ms_i, ms_l, ms_p, PM]
      exact hS
/-- an op is put: the pile grows -/
theorem QmS.putW {v : Int} (h : QmS σ N t tk s g rc up dn o) (hr : rc.length + (up ++ dn).length + 1 ≤ s) : QmS (mj_set (mj_set σ 215 (up ++ dn).length v) 146 91 (((up ++ dn).length + 1 : Nat) : Int)) N t tk s g rc (v :: up) dn o := by
  obtain ⟨h1, h2, h3, h4, h5, ⟨h6, h7⟩, ⟨h8, h9⟩, h10, h11, h12⟩ := h
  refine ⟨(h1.set rfl).set rfl, h2.cg rfl rfl, h3, h4.cg rfl rfl, h5, ⟨h6, h7.cg (fun k _ => rfl)⟩, ⟨rfl, ?_⟩, h10, h11, by simp only [List.cons_append, List.length_cons]; omega⟩
  exact (h9.push (x := v)).cg (fun k _ => rfl)
/-- '*' or '/' -/
theorem QG_mul {p : List Int} {c v : Int} (hc : c = 42 ∧ v = 3 ∨ c = 47 ∧ v = 4) (hp : ∀ y ∈ p, y = 3 ∨ y = 4) (hu : (up ++ dn).headD 0 ≠ 3 ∧ (up ++ dn).headD 0 ≠ 4) (h : QT σ N t tk s g rc (p ++ up) dn o) (hi : IsSg N t s c) (h1 : ∀ σ' s', QT σ' N t tk s' false (p.reverse ++ rc) (v :: up) dn o → Skp N t (s + 1) s' → Fr fqL fqT σ σ' → QA d was K σ') : QG d was K σ := by
  obtain ⟨sN, n16⟩ := h.le
  have hi1 := hi.1
  refine QG_five h (Or.inl (fun h2 => by have := hi.2; have := h2.2; omega)) (fun σ1 o1 q1 p1 f1 => ?_)
  -- behind the sign
  have nine : ∀ (p rc : List Int) (σ2 : mM) (s' : Nat), (∀ y ∈ p, y = 3 ∨ y = 4) → QT σ2 N t tk s' false rc (p ++ up) dn o → Fr fqL fqT σ σ2 → (∀ σ', QT σ' N t tk s' false (p.reverse ++ rc) (v :: up) dn o → Fr fqL fqT σ σ' → QS d was 1 K σ') → rc.length + (p ++ up ++ dn).length + 1 < s' → At (d + 8) 249 9 [some (.inr (.inr 146)), some (.inl v)] [] σ2 (GK d was K) := by
    intro p
    induction p with
    | nil =>
      intro rc σ2 s' hp q2 f2 hfin hb
      have s'N := q2.le.1
      rw [List.nil_append] at q2 hb
      refine At.blk rfl rfl rfl fun sx => ?_
      simp (decide := true) only [RR, ms_app, toList_some, toList_none, if_true, if_false, true_and, and_true, cond_true, sm0, sm1, sm1l, sm2, lc_lt, lc_gt, lc_eq, Int.toNat_natCast, Int.reduceToNat, Nat.reduceAdd, Nat.reduceEqDiff, Int.reduceLT, Int.reduceEq, Int.reduceNeg, Int.reduceAdd, Int.reduceMul, Nat.reduceMul, ms_n, ms_i, ms_l, ms_p, PM]
      refine cal_of rfl (m_qIsOn (by decide) q2.1 (fun h2 => absurd h2 hu.1) (fun _ => ?_))
      simp (decide := true) only [RR, ms_app, toList_some, toList_none, if_true, if_false, true_and, and_true, cond_true, sm0, sm1, sm1l, sm2, lc_lt, lc_gt, lc_eq, Int.toNat_natCast, Int.reduceToNat, Nat.reduceAdd, Nat.reduceEqDiff, Int.reduceLT, Int.reduceEq, Int.reduceNeg, Int.reduceAdd, Int.reduceMul, Nat.reduceMul, ms_n, ms_i, ms_l, ms_p, PM]
      refine cal_of rfl (m_qIsOn (by decide) q2.1 (fun h2 => absurd h2 hu.2) (fun _ => ?_))
      simp (decide := true) only [RR, ms_app, toList_some, toList_none, if_true, if_false, true_and, and_true, cond_true, sm0, sm1, sm1l, sm2, lc_lt, lc_gt, lc_eq, Int.toNat_natCast, Int.reduceToNat, Nat.reduceAdd, Nat.reduceEqDiff, Int.reduceLT, Int.reduceEq, Int.reduceNeg, Int.reduceAdd, Int.reduceMul, Nat.reduceMul, ms_n, ms_i, ms_l, ms_p, PM]
      have w2 : Unit → w32 (((up ++ dn).length : Int) + 1) = (((up ++ dn).length + 1 : Nat) : Int) := fun _ => by rw [w32_small (by omega) (by omega)]; omega
      refine At.blk rfl rfl rfl fun sx => ?_
      simp (decide := true) only [RR, ms_app, toList_some, toList_none, if_true, if_false, true_and, and_true, cond_true, sm0, sm1, sm1l, sm2, lc_lt, lc_gt, lc_eq, Int.toNat_natCast, Int.reduceToNat, Nat.reduceAdd, Nat.reduceEqDiff, Int.reduceLT, Int.reduceEq, Int.reduceNeg, Int.reduceAdd, Int.reduceMul, Nat.reduceMul, ms_n, ms_i, ms_l, ms_p, PM, fxM q2.1.1, q2.1.2.2.2.2.2.2.1.1, w2 ()]
      refine ⟨⟨by omega, by omega⟩, ?_⟩
      exact ⟨1, rfl, Or.inr rfl, hfin _ ⟨q2.1.putW (by omega), by simp only [List.cons_append, List.length_cons, List.reverse_nil, List.nil_append]; omega, q2.2.2⟩ ((f2.setr rfl).set rfl)⟩
    | cons y p ih =>
      intro rc σ2 s' hp q2 f2 hfin hb
      have ten : At (d + 8) 249 10 [some (.inr (.inr 146)), some (.inl v)] [] σ2 (GK d was K) := by
        refine At.blk rfl rfl rfl fun sx => ?_
        simp (decide := true) only [RR, ms_app, toList_some, toList_none, if_true, if_false, true_and, and_true, cond_true, sm0, sm1, sm1l, sm2, lc_lt, lc_gt, lc_eq, Int.toNat_natCast, Int.reduceToNat, Nat.reduceAdd, Nat.reduceEqDiff, Int.reduceLT, Int.reduceEq, Int.reduceNeg, Int.reduceAdd, Int.reduceMul, Nat.reduceMul, ms_n, ms_i, ms_l, ms_p, PM]
        refine cal_of rfl (m_qDrops (x := y) (up := p ++ up) q2.1 (fun σ3 m3 f3 => ?_))
        simp (decide := true) only [RR, ms_app, toList_some, toList_none, if_true, if_false, true_and, and_true, cond_true, sm0, sm1, sm1l, sm2, lc_lt, lc_gt, lc_eq, Int.toNat_natCast, Int.reduceToNat, Nat.reduceAdd, Nat.reduceEqDiff, Int.reduceLT, Int.reduceEq, Int.reduceNeg, Int.reduceAdd, Int.reduceMul, Nat.reduceMul, ms_n, ms_i, ms_l, ms_p, PM]
        simp only [List.cons_append, List.length_cons] at hb
        refine ih (y :: rc) σ3 s' (fun z hz => hp z (List.mem_cons_of_mem _ hz)) ⟨m3, by simp only [List.length_cons]; omega, q2.2.2⟩ (f2.trans f3) (fun σ4 q4 f4 => hfin σ4 ?_ f4) (by simp only [List.length_cons]; omega)
        rw [List.reverse_cons, List.append_assoc]
        exact q4
      refine At.blk rfl rfl rfl fun sx => ?_
      simp (decide := true) only [RR, ms_app, toList_some, toList_none, if_true, if_false, true_and, and_true, cond_true, sm0, sm1, sm1l, sm2, lc_lt, lc_gt, lc_eq, Int.toNat_natCast, Int.reduceToNat, Nat.reduceAdd, Nat.reduceEqDiff, Int.reduceLT, Int.reduceEq, Int.reduceNeg, Int.reduceAdd, Int.reduceMul, Nat.reduceMul, ms_n, ms_i, ms_l, ms_p, PM]
      refine cal_of rfl (m_qIsOn (by decide) q2.1 (fun h2 => ?_) (fun h2 => ?_))
      · simp (decide := true) only [RR, ms_app, toList_some, toList_none, if_true, if_false, true_and, and_true, cond_true, sm0, sm1, sm1l, sm2, lc_lt, lc_gt, lc_eq, Int.toNat_natCast, Int.reduceToNat, Nat.reduceAdd, Nat.reduceEqDiff, Int.reduceLT, Int.reduceEq, Int.reduceNeg, Int.reduceAdd, Int.reduceMul, Nat.reduceMul, ms_n, ms_i, ms_l, ms_p, PM]
        exact ten
      · simp (decide := true) only [RR, ms_app, toList_some, toList_none, if_true, if_false, true_and, and_true, cond_true, sm0, sm1, sm1l, sm2, lc_lt, lc_gt, lc_eq, Int.toNat_natCast, Int.reduceToNat, Nat.reduceAdd, Nat.reduceEqDiff, Int.reduceLT, Int.reduceEq, Int.reduceNeg, Int.reduceAdd, Int.reduceMul, Nat.reduceMul, ms_n, ms_i, ms_l, ms_p, PM]
        refine cal_of rfl (m_qIsOn (by decide) q2.1 (fun h3 => ?_) (fun h3 => ?_))
        · simp (decide := true) only [RR, ms_app, toList_some, toList_none, if_true, if_false, true_and, and_true, cond_true, sm0, sm1, sm1l, sm2, lc_lt, lc_gt, lc_eq, Int.toNat_natCast, Int.reduceToNat, Nat.reduceAdd, Nat.reduceEqDiff, Int.reduceLT, Int.reduceEq, Int.reduceNeg, Int.reduceAdd, Int.reduceMul, Nat.reduceMul, ms_n, ms_i, ms_l, ms_p, PM]
          exact ten
        · exfalso
          rcases hp y List.mem_cons_self with e | e
          · exact h2 e
          · exact h3 e
  have six : ∀ (σ2 : mM) (s' : Nat) (o1 : Option mV), Skp N t (s + 1) s' → QT σ2 N t tk s' false rc (p ++ up) dn o → σ2 146 2 = ((s + 1 : Nat) : Int) → Fr fqL fqT σ σ2 → At (d + 8) 249 6 [some (.inr (.inr 146)), o1] [] σ2 (GK d was K) := by
    intro σ2 s' o1 hs' q2 e2 f2
    have hs1 := hs'.1
    have hlt := h.2.1
    have w0 : Unit → w32 (((s + 1 : Nat) : Int) - 1) = (s : Int) := fun _ => by rw [w32_small (by omega) (by omega)]; omega
    have et : σ2 147 s = c := ((q2.1.2.1.2.2 s hi1).1).trans hi.2
    have go := nine p rc σ2 s' hp q2 f2 (fun σ' q' f' => QS_go q'.1.2.2.1 (h1 σ' s' q' hs' f')) (by omega)
    refine At.blk rfl rfl rfl fun sx => ?_
    simp (decide := true) only [RR, ms_app, toList_some, toList_none, if_true, if_false, true_and, and_true, cond_true, sm0, sm1, sm1l, sm2, lc_lt, lc_gt, lc_eq, Int.toNat_natCast, Int.reduceToNat, Nat.reduceAdd, Nat.reduceEqDiff, Int.reduceLT, Int.reduceEq, Int.reduceNeg, Int.reduceAdd, Int.reduceMul, Nat.reduceMul, ms_n, ms_i, ms_l, ms_p, PM, fxM q2.1.1, e2, w0 (), et]
    refine ⟨⟨by omega, by omega⟩, ?_⟩
    rcases hc with ⟨rfl, rfl⟩ | ⟨rfl, rfl⟩
    · first | rw [if_pos rfl] | skip
      refine At.blk rfl rfl rfl fun sx => ?_
      simp (decide := true) only [RR, ms_app, toList_some, toList_none, if_true, if_false, true_and, and_true, cond_true, sm0, sm1, sm1l, sm2, lc_lt, lc_gt, lc_eq, Int.toNat_natCast, Int.reduceToNat, Nat.reduceAdd, Nat.reduceEqDiff, Int.reduceLT, Int.reduceEq, Int.reduceNeg, Int.reduceAdd, Int.reduceMul, Nat.reduceMul, ms_n, ms_i, ms_l, ms_p, PM]
      exact go
    · first | rw [if_neg (by decide)] | skip
      refine At.blk rfl rfl rfl fun sx => ?_
      simp (decide := true) only [RR, ms_app, toList_some, toList_none, if_true, if_false, true_and, and_true, cond_true, sm0, sm1, sm1l, sm2, lc_lt, lc_gt, lc_eq, Int.toNat_natCast, Int.reduceToNat, Nat.reduceAdd, Nat.reduceEqDiff, Int.reduceLT, Int.reduceEq, Int.reduceNeg, Int.reduceAdd, Int.reduceMul, Nat.reduceMul, ms_n, ms_i, ms_l, ms_p, PM]
      refine At.blk rfl rfl rfl fun sx => ?_
      simp (decide := true) only [RR, ms_app, toList_some, toList_none, if_true, if_false, true_and, and_true, cond_true, sm0, sm1, sm1l, sm2, lc_lt, lc_gt, lc_eq, Int.toNat_natCast, Int.reduceToNat, Nat.reduceAdd, Nat.reduceEqDiff, Int.reduceLT, Int.reduceEq, Int.reduceNeg, Int.reduceAdd, Int.reduceMul, Nat.reduceMul, ms_n, ms_i, ms_l, ms_p, PM]
      exact go
  refine At.blk rfl rfl rfl fun sx => ?_
  simp (decide := true) only [RR, ms_app, toList_some, toList_none, if_true, if_false, true_and, and_true, cond_true, sm0, sm1, sm1l, sm2, lc_lt, lc_gt, lc_eq, Int.toNat_natCast, Int.reduceToNat, Nat.reduceAdd, Nat.reduceEqDiff, Int.reduceLT, Int.reduceEq, Int.reduceNeg, Int.reduceAdd, Int.reduceMul, Nat.reduceMul, ms_n, ms_i, ms_l, ms_p, PM]
  refine cal_of rfl (m_takesSign (Or.inr (Or.inr (Or.inl rfl))) q1.1.1 q1.1.2.1 q1.1.2.2.1 q1.1.2.2.2.1 (fun σ2 s2 f2 hi2 k2 e2 p2 => ?_) (fun σ2 f2 p2 hi2 => ?_))
  · have := k2.1
    simp (decide := true) only [RR, ms_app, toList_some, toList_none, if_true, if_false, true_and, and_true, cond_true, sm0, sm1, sm1l, sm2, lc_lt, lc_gt, lc_eq, Int.toNat_natCast, Int.reduceToNat, Nat.reduceAdd, Nat.reduceEqDiff, Int.reduceLT, Int.reduceEq, Int.reduceNeg, Int.reduceAdd, Int.reduceMul, Nat.reduceMul, ms_n, ms_i, ms_l, ms_p, PM]
    exact six σ2 s2 _ k2 (q1.mv f2 p2 (by omega)) e2 (f1.trans (f2.mono rfl))
  · have q2 := q1.lk f2 p2
    simp (decide := true) only [RR, ms_app, toList_some, toList_none, if_true, if_false, true_and, and_true, cond_true, sm0, sm1, sm1l, sm2, lc_lt, lc_gt, lc_eq, Int.toNat_natCast, Int.reduceToNat, Nat.reduceAdd, Nat.reduceEqDiff, Int.reduceLT, Int.reduceEq, Int.reduceNeg, Int.reduceAdd, Int.reduceMul, Nat.reduceMul, ms_n, ms_i, ms_l, ms_p, PM]
    refine cal_of rfl (m_takesSign (c := 47) (by unfold sgn; omega) q2.1.1 q2.1.2.1 q2.1.2.2.1 q2.1.2.2.2.1 (fun σ3 s3 f3 hi3 k3 e3 p3 => ?_) (fun σ3 f3 p3 hi3 => ?_))
    · have := k3.1
      simp (decide := true) only [RR, ms_app, toList_some, toList_none, if_true, if_false, true_and, and_true, cond_true, sm0, sm1, sm1l, sm2, lc_lt, lc_gt, lc_eq, Int.toNat_natCast, Int.reduceToNat, Nat.reduceAdd, Nat.reduceEqDiff, Int.reduceLT, Int.reduceEq, Int.reduceNeg, Int.reduceAdd, Int.reduceMul, Nat.reduceMul, ms_n, ms_i, ms_l, ms_p, PM]
      exact six σ3 s3 _ k3 (q2.mv f3 p3 (by omega)) e3 ((f1.trans (f2.mono rfl)).trans (f3.mono rfl))
    · exfalso
      rcases hc with ⟨rfl, _⟩ | ⟨rfl, _⟩
      · exact hi2 hi
      · exact hi3 hi
/-- no '*', no '/' -/
theorem QG_twelve (h : QT σ N t tk s g rc up dn o) (h5 : ¬IsSg N t s 41 ∨ ¬(brk up = 20 ∨ brk up = 23 ∨ brk up = 24)) (hm : ¬IsSg N t s 42) (hd : ¬IsSg N t s 47) (h1 : ∀ σ1 o1, QT σ1 N t tk s g rc up dn o → PosA σ1 N t s g → Fr fqL fqT σ σ1 → At (d + 8) 249 12 [some (.inr (.inr 146)), o1] [] σ1 (GK d was K)) : QG d was K σ := by
  refine QG_five h h5 (fun σ1 o1 q1 p1 f1 => ?_)
  refine At.blk rfl rfl rfl fun sx => ?_
  simp (decide := true) only [RR, ms_app, toList_some, toList_none, if_true, if_false, true_and, and_true, cond_true, sm0, sm1, sm1l, sm2, lc_lt, lc_gt, lc_eq, Int.toNat_natCast, Int.reduceToNat, Nat.reduceAdd, Nat.reduceEqDiff, Int.reduceLT, Int.reduceEq, Int.reduceNeg, Int.reduceAdd, Int.reduceMul, Nat.reduceMul, ms_n, ms_i, ms_l, ms_p, PM]
  refine cal_of rfl (m_takesSign (c := 42) (by unfold sgn; omega) q1.1.1 q1.1.2.1 q1.1.2.2.1 q1.1.2.2.2.1 (fun σ2 s2 f2 hi2 k2 e2 p2 => absurd hi2 hm) (fun σ2 f2 p2 hi2 => ?_))
  have q2 := q1.lk f2 p2
  simp (decide := true) only [RR, ms_app, toList_some, toList_none, if_true, if_false, true_and, and_true, cond_true, sm0, sm1, sm1l, sm2, lc_lt, lc_gt, lc_eq, Int.toNat_natCast, Int.reduceToNat, Nat.reduceAdd, Nat.reduceEqDiff, Int.reduceLT, Int.reduceEq, Int.reduceNeg, Int.reduceAdd, Int.reduceMul, Nat.reduceMul, ms_n, ms_i, ms_l, ms_p, PM]
  refine cal_of rfl (m_takesSign (c := 47) (by unfold sgn; omega) q2.1.1 q2.1.2.1 q2.1.2.2.1 q2.1.2.2.2.1 (fun σ3 s3 f3 hi3 k3 e3 p3 => absurd hi3 hd) (fun σ3 f3 p3 hi3 => ?_))
  simp (decide := true) only [RR, ms_app, toList_some, toList_none, if_true, if_false, true_and, and_true, cond_true, sm0, sm1, sm1l, sm2, lc_lt, lc_gt, lc_eq, Int.toNat_natCast, Int.reduceToNat, Nat.reduceAdd, Nat.reduceEqDiff, Int.reduceLT, Int.reduceEq, Int.reduceNeg, Int.reduceAdd, Int.reduceMul, Nat.reduceMul, ms_n, ms_i, ms_l, ms_p, PM]
  exact h1 σ3 o1 (q2.lk f3 p3) p3 ((f1.trans (f2.mono rfl)).trans (f3.mono rfl))
/-- '+' or '-' -/
theorem QG_add {p : List Int} {c v : Int} (hc : c = 43 ∧ v = 1 ∨ c = 45 ∧ v = 2) (hp : ∀ y ∈ p, 1 ≤ y ∧ y ≤ 4) (hu : ¬(1 ≤ (up ++ dn).headD 0 ∧ (up ++ dn).headD 0 ≤ 4)) (h : QT σ N t tk s g rc (p ++ up) dn o) (hi : IsSg N t s c) (h1 : ∀ σ' s', QT σ' N t tk s' false (p.reverse ++ rc) (v :: up) dn o → Skp N t (s + 1) s' → Fr fqL fqT σ σ' → QA d was K σ') : QG d was K σ := by
  obtain ⟨sN, n16⟩ := h.le
  have hi1 := hi.1
  have ne : ∀ x : Int, x ≠ c → ¬IsSg N t s x := fun x hx h2 => hx (h2.2.symm.trans hi.2)
  refine QG_twelve h (Or.inl (ne 41 (by omega))) (ne 42 (by omega)) (ne 47 (by omega)) (fun σ1 o1 q1 p1 f1 => ?_)
  have nine : ∀ (p rc : List Int) (σ2 : mM) (s' : Nat), (∀ y ∈ p, 1 ≤ y ∧ y ≤ 4) → QT σ2 N t tk s' false rc (p ++ up) dn o → Fr fqL fqT σ σ2 → (∀ σ', QT σ' N t tk s' false (p.reverse ++ rc) (v :: up) dn o → Fr fqL fqT σ σ' → QS d was 1 K σ') → rc.length + (p ++ up ++ dn).length + 1 < s' → At (d + 8) 249 16 [some (.inr (.inr 146)), some (.inl v)] [] σ2 (GK d was K) := by
    intro p
    induction p with
    | nil =>
      intro rc σ2 s' hp q2 f2 hfin hb
      have s'N := q2.le.1
      rw [List.nil_append] at q2 hb
      refine At.blk rfl rfl rfl fun sx => ?_
      simp (decide := true) only [RR, ms_app, toList_some, toList_none, if_true, if_false, true_and, and_true, cond_true, sm0, sm1, sm1l, sm2, lc_lt, lc_gt, lc_eq, Int.toNat_natCast, Int.reduceToNat, Nat.reduceAdd, Nat.reduceEqDiff, Int.reduceLT, Int.reduceEq, Int.reduceNeg, Int.reduceAdd, Int.reduceMul, Nat.reduceMul, ms_n, ms_i, ms_l, ms_p, PM]
      refine cal_of rfl (m_qIsOn (by decide) q2.1 (fun h2 => by omega) (fun _ => ?_))
      simp (decide := true) only [RR, ms_app, toList_some, toList_none, if_true, if_false, true_and, and_true, cond_true, sm0, sm1, sm1l, sm2, lc_lt, lc_gt, lc_eq, Int.toNat_natCast, Int.reduceToNat, Nat.reduceAdd, Nat.reduceEqDiff, Int.reduceLT, Int.reduceEq, Int.reduceNeg, Int.reduceAdd, Int.reduceMul, Nat.reduceMul, ms_n, ms_i, ms_l, ms_p, PM]
      refine cal_of rfl (m_qIsOn (by decide) q2.1 (fun h2 => by omega) (fun _ => ?_))
      simp (decide := true) only [RR, ms_app, toList_some, toList_none, if_true, if_false, true_and, and_true, cond_true, sm0, sm1, sm1l, sm2, lc_lt, lc_gt, lc_eq, Int.toNat_natCast, Int.reduceToNat, Nat.reduceAdd, Nat.reduceEqDiff, Int.reduceLT, Int.reduceEq, Int.reduceNeg, Int.reduceAdd, Int.reduceMul, Nat.reduceMul, ms_n, ms_i, ms_l, ms_p, PM]
      refine cal_of rfl (m_qIsOn (by decide) q2.1 (fun h2 => by omega) (fun _ => ?_))
      simp (decide := true) only [RR, ms_app, toList_some, toList_none, if_true, if_false, true_and, and_true, cond_true, sm0, sm1, sm1l, sm2, lc_lt, lc_gt, lc_eq, Int.toNat_natCast, Int.reduceToNat, Nat.reduceAdd, Nat.reduceEqDiff, Int.reduceLT, Int.reduceEq, Int.reduceNeg, Int.reduceAdd, Int.reduceMul, Nat.reduceMul, ms_n, ms_i, ms_l, ms_p, PM]
      refine cal_of rfl (m_qIsOn (by decide) q2.1 (fun h2 => by omega) (fun _ => ?_))
      simp (decide := true) only [RR, ms_app, toList_some, toList_none, if_true, if_false, true_and, and_true, cond_true, sm0, sm1, sm1l, sm2, lc_lt, lc_gt, lc_eq, Int.toNat_natCast, Int.reduceToNat, Nat.reduceAdd, Nat.reduceEqDiff, Int.reduceLT, Int.reduceEq, Int.reduceNeg, Int.reduceAdd, Int.reduceMul, Nat.reduceMul, ms_n, ms_i, ms_l, ms_p, PM]
      have w2 : Unit → w32 (((up ++ dn).length : Int) + 1) = (((up ++ dn).length + 1 : Nat) : Int) := fun _ => by rw [w32_small (by omega) (by omega)]; omega
      refine At.blk rfl rfl rfl fun sx => ?_
      simp (decide := true) only [RR, ms_app, toList_some, toList_none, if_true, if_false, true_and, and_true, cond_true, sm0, sm1, sm1l, sm2, lc_lt, lc_gt, lc_eq, Int.toNat_natCast, Int.reduceToNat, Nat.reduceAdd, Nat.reduceEqDiff, Int.reduceLT, Int.reduceEq, Int.reduceNeg, Int.reduceAdd, Int.reduceMul, Nat.reduceMul, ms_n, ms_i, ms_l, ms_p, PM, fxM q2.1.1, q2.1.2.2.2.2.2.2.1.1, w2 ()]
      refine ⟨⟨by omega, by omega⟩, ?_⟩
      exact ⟨1, rfl, Or.inr rfl, hfin _ ⟨q2.1.putW (by omega), by simp only [List.cons_append, List.length_cons, List.reverse_nil, List.nil_append]; omega, q2.2.2⟩ ((f2.setr rfl).set rfl)⟩
    | cons y p ih =>
      intro rc σ2 s' hp q2 f2 hfin hb
      have ten : At (d + 8) 249 17 [some (.inr (.inr 146)), some (.inl v)] [] σ2 (GK d was K) := by
        refine At.blk rfl rfl rfl fun sx => ?_
        simp (decide := true) only [RR, ms_app, toList_some, toList_none, if_true, if_false, true_and, and_true, cond_true, sm0, sm1, sm1l, sm2, lc_lt, lc_gt, lc_eq, Int.toNat_natCast, Int.reduceToNat, Nat.reduceAdd, Nat.reduceEqDiff, Int.reduceLT, Int.reduceEq, Int.reduceNeg, Int.reduceAdd, Int.reduceMul, Nat.reduceMul, ms_n, ms_i, ms_l, ms_p, PM]
        refine cal_of rfl (m_qDrops (x := y) (up := p ++ up) q2.1 (fun σ3 m3 f3 => ?_))
        simp (decide := true) only [RR, ms_app, toList_some, toList_none, if_true, if_false, true_and, and_true, cond_true, sm0, sm1, sm1l, sm2, lc_lt, lc_gt, lc_eq, Int.toNat_natCast, Int.reduceToNat, Nat.reduceAdd, Nat.reduceEqDiff, Int.reduceLT, Int.reduceEq, Int.reduceNeg, Int.reduceAdd, Int.reduceMul, Nat.reduceMul, ms_n, ms_i, ms_l, ms_p, PM]
        simp only [List.cons_append, List.length_cons] at hb
        refine ih (y :: rc) σ3 s' (fun z hz => hp z (List.mem_cons_of_mem _ hz)) ⟨m3, by simp only [List.length_cons]; omega, q2.2.2⟩ (f2.trans f3) (fun σ4 q4 f4 => hfin σ4 ?_ f4) (by simp only [List.length_cons]; omega)
        rw [List.reverse_cons, List.append_assoc]
        exact q4
      have hy := hp y List.mem_cons_self
      refine At.blk rfl rfl rfl fun sx => ?_
      simp (decide := true) only [RR, ms_app, toList_some, toList_none, if_true, if_false, true_and, and_true, cond_true, sm0, sm1, sm1l, sm2, lc_lt, lc_gt, lc_eq, Int.toNat_natCast, Int.reduceToNat, Nat.reduceAdd, Nat.reduceEqDiff, Int.reduceLT, Int.reduceEq, Int.reduceNeg, Int.reduceAdd, Int.reduceMul, Nat.reduceMul, ms_n, ms_i, ms_l, ms_p, PM]
      refine cal_of rfl (m_qIsOn (by decide) q2.1 (fun h2 => ?_) (fun h2 => ?_))
      · simp (decide := true) only [RR, ms_app, toList_some, toList_none, if_true, if_false, true_and, and_true, cond_true, sm0, sm1, sm1l, sm2, lc_lt, lc_gt, lc_eq, Int.toNat_natCast, Int.reduceToNat, Nat.reduceAdd, Nat.reduceEqDiff, Int.reduceLT, Int.reduceEq, Int.reduceNeg, Int.reduceAdd, Int.reduceMul, Nat.reduceMul, ms_n, ms_i, ms_l, ms_p, PM]
        exact ten
      · simp (decide := true) only [RR, ms_app, toList_some, toList_none, if_true, if_false, true_and, and_true, cond_true, sm0, sm1, sm1l, sm2, lc_lt, lc_gt, lc_eq, Int.toNat_natCast, Int.reduceToNat, Nat.reduceAdd, Nat.reduceEqDiff, Int.reduceLT, Int.reduceEq, Int.reduceNeg, Int.reduceAdd, Int.reduceMul, Nat.reduceMul, ms_n, ms_i, ms_l, ms_p, PM]
        refine cal_of rfl (m_qIsOn (by decide) q2.1 (fun h3 => ?_) (fun h3 => ?_))
        · simp (decide := true) only [RR, ms_app, toList_some, toList_none, if_true, if_false, true_and, and_true, cond_true, sm0, sm1, sm1l, sm2, lc_lt, lc_gt, lc_eq, Int.toNat_natCast, Int.reduceToNat, Nat.reduceAdd, Nat.reduceEqDiff, Int.reduceLT, Int.reduceEq, Int.reduceNeg, Int.reduceAdd, Int.reduceMul, Nat.reduceMul, ms_n, ms_i, ms_l, ms_p, PM]
          exact ten
        · simp (decide := true) only [RR, ms_app, toList_some, toList_none, if_true, if_false, true_and, and_true, cond_true, sm0, sm1, sm1l, sm2, lc_lt, lc_gt, lc_eq, Int.toNat_natCast, Int.reduceToNat, Nat.reduceAdd, Nat.reduceEqDiff, Int.reduceLT, Int.reduceEq, Int.reduceNeg, Int.reduceAdd, Int.reduceMul, Nat.reduceMul, ms_n, ms_i, ms_l, ms_p, PM]
          refine cal_of rfl (m_qIsOn (by decide) q2.1 (fun h4 => ?_) (fun h4 => ?_))
          · simp (decide := true) only [RR, ms_app, toList_some, toList_none, if_true, if_false, true_and, and_true, cond_true, sm0, sm1, sm1l, sm2, lc_lt, lc_gt, lc_eq, Int.toNat_natCast, Int.reduceToNat, Nat.reduceAdd, Nat.reduceEqDiff, Int.reduceLT, Int.reduceEq, Int.reduceNeg, Int.reduceAdd, Int.reduceMul, Nat.reduceMul, ms_n, ms_i, ms_l, ms_p, PM]
            exact ten
          · simp (decide := true) only [RR, ms_app, toList_some, toList_none, if_true, if_false, true_and, and_true, cond_true, sm0, sm1, sm1l, sm2, lc_lt, lc_gt, lc_eq, Int.toNat_natCast, Int.reduceToNat, Nat.reduceAdd, Nat.reduceEqDiff, Int.reduceLT, Int.reduceEq, Int.reduceNeg, Int.reduceAdd, Int.reduceMul, Nat.reduceMul, ms_n, ms_i, ms_l, ms_p, PM]
            refine cal_of rfl (m_qIsOn (by decide) q2.1 (fun h5 => ?_) (fun h5 => ?_))
            · simp (decide := true) only [RR, ms_app, toList_some, toList_none, if_true, if_false, true_and, and_true, cond_true, sm0, sm1, sm1l, sm2, lc_lt, lc_gt, lc_eq, Int.toNat_natCast, Int.reduceToNat, Nat.reduceAdd, Nat.reduceEqDiff, Int.reduceLT, Int.reduceEq, Int.reduceNeg, Int.reduceAdd, Int.reduceMul, Nat.reduceMul, ms_n, ms_i, ms_l, ms_p, PM]
              exact ten
            · exfalso
              have h2 : y ≠ 3 := h2
              have h3 : y ≠ 4 := h3
              have h4 : y ≠ 1 := h4
              have h5 : y ≠ 2 := h5
              omega
  have six : ∀ (σ2 : mM) (s' : Nat) (o1 : Option mV), Skp N t (s + 1) s' → QT σ2 N t tk s' false rc (p ++ up) dn o → σ2 146 2 = ((s + 1 : Nat) : Int) → Fr fqL fqT σ σ2 → At (d + 8) 249 13 [some (.inr (.inr 146)), o1] [] σ2 (GK d was K) := by
    intro σ2 s' o1 hs' q2 e2 f2
    have hs1 := hs'.1
    have hlt := h.2.1
    have w0 : Unit → w32 (((s + 1 : Nat) : Int) - 1) = (s : Int) := fun _ => by rw [w32_small (by omega) (by omega)]; omega
    have et : σ2 147 s = c := ((q2.1.2.1.2.2 s hi1).1).trans hi.2
    have go := nine p rc σ2 s' hp q2 f2 (fun σ' q' f' => QS_go q'.1.2.2.1 (h1 σ' s' q' hs' f')) (by omega)
    refine At.blk rfl rfl rfl fun sx => ?_
    simp (decide := true) only [RR, ms_app, toList_some, toList_none, if_true, if_false, true_and, and_true, cond_true, sm0, sm1, sm1l, sm2, lc_lt, lc_gt, lc_eq, Int.toNat_natCast, Int.reduceToNat, Nat.reduceAdd, Nat.reduceEqDiff, Int.reduceLT, Int.reduceEq, Int.reduceNeg, Int.reduceAdd, Int.reduceMul, Nat.reduceMul, ms_n, ms_i, ms_l, ms_p, PM, fxM q2.1.1, e2, w0 (), et]
    refine ⟨⟨by omega, by omega⟩, ?_⟩
    rcases hc with ⟨rfl, rfl⟩ | ⟨rfl, rfl⟩
    · first | rw [if_pos rfl] | skip
      refine At.blk rfl rfl rfl fun sx => ?_
      simp (decide := true) only [RR, ms_app, toList_some, toList_none, if_true, if_false, true_and, and_true, cond_true, sm0, sm1, sm1l, sm2, lc_lt, lc_gt, lc_eq, Int.toNat_natCast, Int.reduceToNat, Nat.reduceAdd, Nat.reduceEqDiff, Int.reduceLT, Int.reduceEq, Int.reduceNeg, Int.reduceAdd, Int.reduceMul, Nat.reduceMul, ms_n, ms_i, ms_l, ms_p, PM]
      exact go
    · first | rw [if_neg (by decide)] | skip
      refine At.blk rfl rfl rfl fun sx => ?_
      simp (decide := true) only [RR, ms_app, toList_some, toList_none, if_true, if_false, true_and, and_true, cond_true, sm0, sm1, sm1l, sm2, lc_lt, lc_gt, lc_eq, Int.toNat_natCast, Int.reduceToNat, Nat.reduceAdd, Nat.reduceEqDiff, Int.reduceLT, Int.reduceEq, Int.reduceNeg, Int.reduceAdd, Int.reduceMul, Nat.reduceMul, ms_n, ms_i, ms_l, ms_p, PM]
      refine At.blk rfl rfl rfl fun sx => ?_
      simp (decide := true) only [RR, ms_app, toList_some, toList_none, if_true, if_false, true_and, and_true, cond_true, sm0, sm1, sm1l, sm2, lc_lt, lc_gt, lc_eq, Int.toNat_natCast, Int.reduceToNat, Nat.reduceAdd, Nat.reduceEqDiff, Int.reduceLT, Int.reduceEq, Int.reduceNeg, Int.reduceAdd, Int.reduceMul, Nat.reduceMul, ms_n, ms_i, ms_l, ms_p, PM]
      exact go
  refine At.blk rfl rfl rfl fun sx => ?_
  simp (decide := true) only [RR, ms_app, toList_some, toList_none, if_true, if_false, true_and, and_true, cond_true, sm0, sm1, sm1l, sm2, lc_lt, lc_gt, lc_eq, Int.toNat_natCast, Int.reduceToNat, Nat.reduceAdd, Nat.reduceEqDiff, Int.reduceLT, Int.reduceEq, Int.reduceNeg, Int.reduceAdd, Int.reduceMul, Nat.reduceMul, ms_n, ms_i, ms_l, ms_p, PM]
  refine cal_of rfl (m_takesSign (c := 43) (by unfold sgn; omega) q1.1.1 q1.1.2.1 q1.1.2.2.1 q1.1.2.2.2.1 (fun σ2 s2 f2 hi2 k2 e2 p2 => ?_) (fun σ2 f2 p2 hi2 => ?_))
  · have := k2.1
    simp (decide := true) only [RR, ms_app, toList_some, toList_none, if_true, if_false, true_and, and_true, cond_true, sm0, sm1, sm1l, sm2, lc_lt, lc_gt, lc_eq, Int.toNat_natCast, Int.reduceToNat, Nat.reduceAdd, Nat.reduceEqDiff, Int.reduceLT, Int.reduceEq, Int.reduceNeg, Int.reduceAdd, Int.reduceMul, Nat.reduceMul, ms_n, ms_i, ms_l, ms_p, PM]
    exact six σ2 s2 _ k2 (q1.mv f2 p2 (by omega)) e2 (f1.trans (f2.mono rfl))
  · have q2 := q1.lk f2 p2
    simp (decide := true) only [RR, ms_app, toList_some, toList_none, if_true, if_false, true_and, and_true, cond_true, sm0, sm1, sm1l, sm2, lc_lt, lc_gt, lc_eq, Int.toNat_natCast, Int.reduceToNat, Nat.reduceAdd, Nat.reduceEqDiff, Int.reduceLT, Int.reduceEq, Int.reduceNeg, Int.reduceAdd, Int.reduceMul, Nat.reduceMul, ms_n, ms_i, ms_l, ms_p, PM]
    refine cal_of rfl (m_takesSign (c := 45) (by unfold sgn; omega) q2.1.1 q2.1.2.1 q2.1.2.2.1 q2.1.2.2.2.1 (fun σ3 s3 f3 hi3 k3 e3 p3 => ?_) (fun σ3 f3 p3 hi3 => ?_))
    · have := k3.1
      simp (decide := true) only [RR, ms_app, toList_some, toList_none, if_true, if_false, true_and, and_true, cond_true, sm0, sm1, sm1l, sm2, lc_lt, lc_gt, lc_eq, Int.toNat_natCast, Int.reduceToNat, Nat.reduceAdd, Nat.reduceEqDiff, Int.reduceLT, Int.reduceEq, Int.reduceNeg, Int.reduceAdd, Int.reduceMul, Nat.reduceMul, ms_n, ms_i, ms_l, ms_p, PM]
      exact six σ3 s3 _ k3 (q2.mv f3 p3 (by omega)) e3 ((f1.trans (f2.mono rfl)).trans (f3.mono rfl))
    · exfalso
      rcases hc with ⟨rfl, _⟩ | ⟨rfl, _⟩
      · exact hi2 hi
      · exact hi3 hi
/-- no op at all -/
def noOp (N : Nat) (t : Nat → Int) (s : Nat) : Prop := ¬IsSg N t s 42 ∧ ¬IsSg N t s 47 ∧ ¬IsSg N t s 43 ∧ ¬IsSg N t s 45
theorem QG_nineteen (h : QT σ N t tk s g rc up dn o) (h5 : ¬IsSg N t s 41 ∨ ¬(brk up = 20 ∨ brk up = 23 ∨ brk up = 24)) (hn : noOp N t s) (h1 : ∀ σ1 o1, QT σ1 N t tk s g rc up dn o → PosA σ1 N t s g → Fr fqL fqT σ σ1 → At (d + 8) 249 19 [some (.inr (.inr 146)), o1] [] σ1 (GK d was K)) : QG d was K σ := by
  obtain ⟨n1, n2, n3, n4⟩ := hn
  refine QG_twelve h h5 n1 n2 (fun σ1 o1 q1 p1 f1 => ?_)
  refine At.blk rfl rfl rfl fun sx => ?_
  simp (decide := true) only [RR, ms_app, toList_some, toList_none, if_true, if_false, true_and, and_true, cond_true, sm0, sm1, sm1l, sm2, lc_lt, lc_gt, lc_eq, Int.toNat_natCast, Int.reduceToNat, Nat.reduceAdd, Nat.reduceEqDiff, Int.reduceLT, Int.reduceEq, Int.reduceNeg, Int.reduceAdd, Int.reduceMul, Nat.reduceMul, ms_n, ms_i, ms_l, ms_p, PM]
  refine cal_of rfl (m_takesSign (c := 43) (by unfold sgn; omega) q1.1.1 q1.1.2.1 q1.1.2.2.1 q1.1.2.2.2.1 (fun σ2 s2 f2 hi2 k2 e2 p2 => absurd hi2 n3) (fun σ2 f2 p2 hi2 => ?_))
  have q2 := q1.lk f2 p2
  simp (decide := true) only [RR, ms_app, toList_some, toList_none, if_true, if_false, true_and, and_true, cond_true, sm0, sm1, sm1l, sm2, lc_lt, lc_gt, lc_eq, Int.toNat_natCast, Int.reduceToNat, Nat.reduceAdd, Nat.reduceEqDiff, Int.reduceLT, Int.reduceEq, Int.reduceNeg, Int.reduceAdd, Int.reduceMul, Nat.reduceMul, ms_n, ms_i, ms_l, ms_p, PM]
  refine cal_of rfl (m_takesSign (c := 45) (by unfold sgn; omega) q2.1.1 q2.1.2.1 q2.1.2.2.1 q2.1.2.2.2.1 (fun σ3 s3 f3 hi3 k3 e3 p3 => absurd hi3 n4) (fun σ3 f3 p3 hi3 => ?_))
  simp (decide := true) only [RR, ms_app, toList_some, toList_none, if_true, if_false, true_and, and_true, cond_true, sm0, sm1, sm1l, sm2, lc_lt, lc_gt, lc_eq, Int.toNat_natCast, Int.reduceToNat, Nat.reduceAdd, Nat.reduceEqDiff, Int.reduceLT, Int.reduceEq, Int.reduceNeg, Int.reduceAdd, Int.reduceMul, Nat.reduceMul, ms_n, ms_i, ms_l, ms_p, PM]
  exact h1 σ3 o1 (q2.lk f3 p3) p3 ((f1.trans (f2.mono rfl)).trans (f3.mono rfl))
/-- ',' in min, max; or bad -/
theorem QG_comma {p : List Int} {x : Int} (hp : ∀ y ∈ p, 1 ≤ y ∧ y ≤ 4) (hx : x = 21 ∨ x = 22) (h : QT σ N t tk s g rc (p ++ x :: up) dn o) (hn : noOp N t s) (h1 : IsSg N t s 44 → ∀ σ' s', QT σ' N t tk s' false (p.reverse ++ rc) ((x + 2) :: up) dn o → Skp N t (s + 1) s' → Fr fqL fqT σ σ' → QA d was K σ') (h0 : ¬IsSg N t s 44 → QB d was K σ 1 (s : Int)) : QG d was K σ := by
  have hbk : brk (p ++ x :: up) = x := brk_ops hp (by omega)
  obtain ⟨sN, n16⟩ := h.le
  refine QG_nineteen h (Or.inr (by rw [hbk]; omega)) hn (fun σ1 o1 q1 p1 f1 => ?_)
  have twenty : At (d + 8) 249 20 [some (.inr (.inr 146)), o1] [] σ1 (GK d was K) := by
    refine At.blk rfl rfl rfl fun sx => ?_
    simp (decide := true) only [RR, ms_app, toList_some, toList_none, if_true, if_false, true_and, and_true, cond_true, sm0, sm1, sm1l, sm2, lc_lt, lc_gt, lc_eq, Int.toNat_natCast, Int.reduceToNat, Nat.reduceAdd, Nat.reduceEqDiff, Int.reduceLT, Int.reduceEq, Int.reduceNeg, Int.reduceAdd, Int.reduceMul, Nat.reduceMul, ms_n, ms_i, ms_l, ms_p, PM]
    refine cal_of rfl (m_asksSign (c := 44) (by unfold sgn; omega) q1.1.1 q1.1.2.1 q1.1.2.2.1 q1.1.2.2.2.1 (fun σ2 s2 f2 hi2 k2 p2 => ?_) (fun σ2 f2 hi2 e5 e6 => ?_))
    · have k21 := k2.1
      have q2 := q1.mv f2 p2 (by omega)
      have hlt := h.2.1
      have k22 := k2.2.1
      simp (decide := true) only [RR, ms_app, toList_some, toList_none, if_true, if_false, true_and, and_true, cond_true, sm0, sm1, sm1l, sm2, lc_lt, lc_gt, lc_eq, Int.toNat_natCast, Int.reduceToNat, Nat.reduceAdd, Nat.reduceEqDiff, Int.reduceLT, Int.reduceEq, Int.reduceNeg, Int.reduceAdd, Int.reduceMul, Nat.reduceMul, ms_n, ms_i, ms_l, ms_p, PM, q2.1.2.2.1]
      refine At.blk rfl rfl rfl fun sx => ?_
      simp (decide := true) only [RR, ms_app, toList_some, toList_none, if_true, if_false, true_and, and_true, cond_true, sm0, sm1, sm1l, sm2, lc_lt, lc_gt, lc_eq, Int.toNat_natCast, Int.reduceToNat, Nat.reduceAdd, Nat.reduceEqDiff, Int.reduceLT, Int.reduceEq, Int.reduceNeg, Int.reduceAdd, Int.reduceMul, Nat.reduceMul, ms_n, ms_i, ms_l, ms_p, PM]
      refine cal_of rfl (m_qDropsToBracket (x := x) (by omega) (p := p) (fun y hy => by have := hp y hy; omega) q2.1 (fun σ3 m3 f3 => ?_))
      have F3 : Fr fqL fqT σ σ3 := (f1.trans (f2.mono rfl)).trans f3
      obtain ⟨h1', h2, h3, h4, h5, ⟨h6, h7⟩, ⟨h8, h9⟩, h10, h11, h12⟩ := m3
      rw [List.cons_append] at h8 h9 h12
      simp only [List.length_cons] at h8 h12
      simp only [List.length_append, List.length_reverse] at h12
      have hl2 : (up ++ dn).length = up.length + dn.length := List.length_append
      have w1 : Unit → w32 ((((up ++ dn).length + 1 : Nat) : Int) - 1) = ((up ++ dn).length : Int) := fun _ => by rw [w32_small (by omega) (by omega)]; omega
      have w2 : Unit → w32 (x + 2) = x + 2 := fun _ => w32_small (by omega) (by omega)
      have ex : σ3 215 (up ++ dn).length = x := h9.1
      simp (decide := true) only [RR, ms_app, toList_some, toList_none, if_true, if_false, true_and, and_true, cond_true, sm0, sm1, sm1l, sm2, lc_lt, lc_gt, lc_eq, Int.toNat_natCast, Int.reduceToNat, Nat.reduceAdd, Nat.reduceEqDiff, Int.reduceLT, Int.reduceEq, Int.reduceNeg, Int.reduceAdd, Int.reduceMul, Nat.reduceMul, ms_n, ms_i, ms_l, ms_p, PM, fxM h1', h8, w1 (), ex, w2 ()]
      refine ⟨⟨by omega, by omega⟩, ⟨by omega, by omega⟩, ?_⟩
      refine ⟨1, rfl, Or.inr rfl, QS_go (by exact h3) (h1 hi2 _ s2 ⟨⟨h1'.set rfl, h2.cg rfl rfl, h3, h4.cg rfl rfl, h5, ⟨h6, h7.cg (fun k _ => rfl)⟩, ⟨by rw [List.cons_append]; exact h8, (show Stk _ 215 ((x + 2) :: (up ++ dn)) from ⟨by rw [ms_app, if_pos rfl, if_pos rfl], h9.2.set (Nat.le_refl _)⟩)⟩, h10, h11, ?_⟩, ?_, h.2.2⟩ k2 (F3.setr rfl))⟩
      · simp only [List.cons_append, List.length_cons, List.length_append, List.length_reverse]; omega
      · simp only [List.cons_append, List.length_cons, List.length_append, List.length_reverse] at hlt ⊢
        omega
    · have hb := h0 hi2
      simp (decide := true) only [RR, ms_app, toList_some, toList_none, if_true, if_false, true_and, and_true, cond_true, sm0, sm1, sm1l, sm2, lc_lt, lc_gt, lc_eq, Int.toNat_natCast, Int.reduceToNat, Nat.reduceAdd, Nat.reduceEqDiff, Int.reduceLT, Int.reduceEq, Int.reduceNeg, Int.reduceAdd, Int.reduceMul, Nat.reduceMul, ms_n, ms_i, ms_l, ms_p, PM, e5]
      exact ⟨0, rfl, Or.inl rfl, hb.2 _ 0 e5 e6 (f1.trans (f2.mono rfl)) ⟨rc.length, (f2 146 89 rfl).trans q1.1.2.2.2.2.2.1.1, by have := h.2.1; omega⟩⟩
  refine At.blk rfl rfl rfl fun sx => ?_
  simp (decide := true) only [RR, ms_app, toList_some, toList_none, if_true, if_false, true_and, and_true, cond_true, sm0, sm1, sm1l, sm2, lc_lt, lc_gt, lc_eq, Int.toNat_natCast, Int.reduceToNat, Nat.reduceAdd, Nat.reduceEqDiff, Int.reduceLT, Int.reduceEq, Int.reduceNeg, Int.reduceAdd, Int.reduceMul, Nat.reduceMul, ms_n, ms_i, ms_l, ms_p, PM]
  refine cal_of rfl (m_qBracket q1.1 ?_)
  rw [hbk]
  simp (decide := true) only [RR, ms_app, toList_some, toList_none, if_true, if_false, true_and, and_true, cond_true, sm0, sm1, sm1l, sm2, lc_lt, lc_gt, lc_eq, Int.toNat_natCast, Int.reduceToNat, Nat.reduceAdd, Nat.reduceEqDiff, Int.reduceLT, Int.reduceEq, Int.reduceNeg, Int.reduceAdd, Int.reduceMul, Nat.reduceMul, ms_n, ms_i, ms_l, ms_p, PM]
  by_cases c : x = 21
  · rw [if_pos c]; exact twenty
  · rw [if_neg c]
    refine cal_of rfl (m_qBracket q1.1 ?_)
    rw [hbk]
    simp (decide := true) only [RR, ms_app, toList_some, toList_none, if_true, if_false, true_and, and_true, cond_true, sm0, sm1, sm1l, sm2, lc_lt, lc_gt, lc_eq, Int.toNat_natCast, Int.reduceToNat, Nat.reduceAdd, Nat.reduceEqDiff, Int.reduceLT, Int.reduceEq, Int.reduceNeg, Int.reduceAdd, Int.reduceMul, Nat.reduceMul, ms_n, ms_i, ms_l, ms_p, PM]
    rw [if_pos (by omega)]
    exact twenty
/-- a bracket stays open: bad -/
theorem QG_fail {p : List Int} {x : Int} (hp : ∀ y ∈ p, 1 ≤ y ∧ y ≤ 4) (hx : x = 20 ∨ x = 23 ∨ x = 24) (h : QT σ N t tk s g rc (p ++ x :: up) dn o) (hn : noOp N t s) (h5 : ¬IsSg N t s 41) (h0 : QB d was K σ 1 (s : Int)) : QG d was K σ := by
  have hbk : brk (p ++ x :: up) = x := brk_ops hp (by omega)
  refine QG_nineteen h (Or.inl h5) hn (fun σ1 o1 q1 p1 f1 => ?_)
  refine At.blk rfl rfl rfl fun sx => ?_
  simp (decide := true) only [RR, ms_app, toList_some, toList_none, if_true, if_false, true_and, and_true, cond_true, sm0, sm1, sm1l, sm2, lc_lt, lc_gt, lc_eq, Int.toNat_natCast, Int.reduceToNat, Nat.reduceAdd, Nat.reduceEqDiff, Int.reduceLT, Int.reduceEq, Int.reduceNeg, Int.reduceAdd, Int.reduceMul, Nat.reduceMul, ms_n, ms_i, ms_l, ms_p, PM]
  refine cal_of rfl (m_qBracket q1.1 ?_)
  rw [hbk]
  simp (decide := true) only [RR, ms_app, toList_some, toList_none, if_true, if_false, true_and, and_true, cond_true, sm0, sm1, sm1l, sm2, lc_lt, lc_gt, lc_eq, Int.toNat_natCast, Int.reduceToNat, Nat.reduceAdd, Nat.reduceEqDiff, Int.reduceLT, Int.reduceEq, Int.reduceNeg, Int.reduceAdd, Int.reduceMul, Nat.reduceMul, ms_n, ms_i, ms_l, ms_p, PM]
  rw [if_neg (by omega)]
  refine cal_of rfl (m_qBracket q1.1 ?_)
  rw [hbk]
  simp (decide := true) only [RR, ms_app, toList_some, toList_none, if_true, if_false, true_and, and_true, cond_true, sm0, sm1, sm1l, sm2, lc_lt, lc_gt, lc_eq, Int.toNat_natCast, Int.reduceToNat, Nat.reduceAdd, Nat.reduceEqDiff, Int.reduceLT, Int.reduceEq, Int.reduceNeg, Int.reduceAdd, Int.reduceMul, Nat.reduceMul, ms_n, ms_i, ms_l, ms_p, PM]
  rw [if_neg (by omega)]
  refine At.blk rfl rfl rfl fun sx => ?_
  simp (decide := true) only [RR, ms_app, toList_some, toList_none, if_true, if_false, true_and, and_true, cond_true, sm0, sm1, sm1l, sm2, lc_lt, lc_gt, lc_eq, Int.toNat_natCast, Int.reduceToNat, Nat.reduceAdd, Nat.reduceEqDiff, Int.reduceLT, Int.reduceEq, Int.reduceNeg, Int.reduceAdd, Int.reduceMul, Nat.reduceMul, ms_n, ms_i, ms_l, ms_p, PM]
  refine cal_of rfl (m_qBracket q1.1 ?_)
  rw [hbk]
  simp (decide := true) only [RR, ms_app, toList_some, toList_none, if_true, if_false, true_and, and_true, cond_true, sm0, sm1, sm1l, sm2, lc_lt, lc_gt, lc_eq, Int.toNat_natCast, Int.reduceToNat, Nat.reduceAdd, Nat.reduceEqDiff, Int.reduceLT, Int.reduceEq, Int.reduceNeg, Int.reduceAdd, Int.reduceMul, Nat.reduceMul, ms_n, ms_i, ms_l, ms_p, PM, q1.1.2.2.1, p1.1]
  rw [if_neg (by omega)]
  refine cal_of rfl (m_fail q1.1.2.2.1 ?_)
  simp (decide := true) only [RR, ms_app, toList_some, toList_none, if_true, if_false, true_and, and_true, cond_true, sm0, sm1, sm1l, sm2, lc_lt, lc_gt, lc_eq, Int.toNat_natCast, Int.reduceToNat, Nat.reduceAdd, Nat.reduceEqDiff, Int.reduceLT, Int.reduceEq, Int.reduceNeg, Int.reduceAdd, Int.reduceMul, Nat.reduceMul, ms_n, ms_i, ms_l, ms_p, PM]
  refine At.blk rfl rfl rfl fun sx => ?_
  simp (decide := true) only [RR, ms_app, toList_some, toList_none, if_true, if_false, true_and, and_true, cond_true, sm0, sm1, sm1l, sm2, lc_lt, lc_gt, lc_eq, Int.toNat_natCast, Int.reduceToNat, Nat.reduceAdd, Nat.reduceEqDiff, Int.reduceLT, Int.reduceEq, Int.reduceNeg, Int.reduceAdd, Int.reduceMul, Nat.reduceMul, ms_n, ms_i, ms_l, ms_p, PM]
  exact ⟨0, rfl, Or.inl rfl, h0.2 _ 0 rfl rfl ((f1.set rfl).set rfl) ⟨rc.length, by exact q1.1.2.2.2.2.2.1.1, by have := h.2.1; have := h.le; omega⟩⟩
/-- the sum ends -/
theorem QG_fin {p : List Int} (hp : ∀ y ∈ p, 1 ≤ y ∧ y ≤ 4) (h : QT σ N t tk s g rc p dn o) (hn : noOp N t s) (h1 : ∀ σ1, QT σ1 N t tk s g rc p dn o → Fr fqL fqT σ σ1 → QS d was 0 K σ1) : QG d was K σ := by
  have hbk : brk p = -1 := brk_none hp
  refine QG_nineteen h (Or.inr (by rw [hbk]; omega)) hn (fun σ1 o1 q1 p1 f1 => ?_)
  refine At.blk rfl rfl rfl fun sx => ?_
  simp (decide := true) only [RR, ms_app, toList_some, toList_none, if_true, if_false, true_and, and_true, cond_true, sm0, sm1, sm1l, sm2, lc_lt, lc_gt, lc_eq, Int.toNat_natCast, Int.reduceToNat, Nat.reduceAdd, Nat.reduceEqDiff, Int.reduceLT, Int.reduceEq, Int.reduceNeg, Int.reduceAdd, Int.reduceMul, Nat.reduceMul, ms_n, ms_i, ms_l, ms_p, PM]
  refine cal_of rfl (m_qBracket q1.1 ?_)
  rw [hbk]
  simp (decide := true) only [RR, ms_app, toList_some, toList_none, if_true, if_false, true_and, and_true, cond_true, sm0, sm1, sm1l, sm2, lc_lt, lc_gt, lc_eq, Int.toNat_natCast, Int.reduceToNat, Nat.reduceAdd, Nat.reduceEqDiff, Int.reduceLT, Int.reduceEq, Int.reduceNeg, Int.reduceAdd, Int.reduceMul, Nat.reduceMul, ms_n, ms_i, ms_l, ms_p, PM]
  refine cal_of rfl (m_qBracket q1.1 ?_)
  rw [hbk]
  simp (decide := true) only [RR, ms_app, toList_some, toList_none, if_true, if_false, true_and, and_true, cond_true, sm0, sm1, sm1l, sm2, lc_lt, lc_gt, lc_eq, Int.toNat_natCast, Int.reduceToNat, Nat.reduceAdd, Nat.reduceEqDiff, Int.reduceLT, Int.reduceEq, Int.reduceNeg, Int.reduceAdd, Int.reduceMul, Nat.reduceMul, ms_n, ms_i, ms_l, ms_p, PM]
  refine At.blk rfl rfl rfl fun sx => ?_
  simp (decide := true) only [RR, ms_app, toList_some, toList_none, if_true, if_false, true_and, and_true, cond_true, sm0, sm1, sm1l, sm2, lc_lt, lc_gt, lc_eq, Int.toNat_natCast, Int.reduceToNat, Nat.reduceAdd, Nat.reduceEqDiff, Int.reduceLT, Int.reduceEq, Int.reduceNeg, Int.reduceAdd, Int.reduceMul, Nat.reduceMul, ms_n, ms_i, ms_l, ms_p, PM]
  refine cal_of rfl (m_qBracket q1.1 ?_)
  rw [hbk]
  simp (decide := true) only [RR, ms_app, toList_some, toList_none, if_true, if_false, true_and, and_true, cond_true, sm0, sm1, sm1l, sm2, lc_lt, lc_gt, lc_eq, Int.toNat_natCast, Int.reduceToNat, Nat.reduceAdd, Nat.reduceEqDiff, Int.reduceLT, Int.reduceEq, Int.reduceNeg, Int.reduceAdd, Int.reduceMul, Nat.reduceMul, ms_n, ms_i, ms_l, ms_p, PM]
  refine At.blk rfl rfl rfl fun sx => ?_
  simp (decide := true) only [RR, ms_app, toList_some, toList_none, if_true, if_false, true_and, and_true, cond_true, sm0, sm1, sm1l, sm2, lc_lt, lc_gt, lc_eq, Int.toNat_natCast, Int.reduceToNat, Nat.reduceAdd, Nat.reduceEqDiff, Int.reduceLT, Int.reduceEq, Int.reduceNeg, Int.reduceAdd, Int.reduceMul, Nat.reduceMul, ms_n, ms_i, ms_l, ms_p, PM]
  exact ⟨0, rfl, Or.inl rfl, h1 σ1 q1 f1⟩
end
