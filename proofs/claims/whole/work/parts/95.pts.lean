/-! the points of the model's sums: qSums (250), qPartTold (248), qEndsPart (247), qGoesOn (249) -/
def QS (d : Nat) (was z : Int) (K : Option mV → mM → Prop) (σ : mM) : Prop := At (d + 9) 250 1 [some (.inr (.inr 146)), some (.inl was), some (.inl z)] [] σ K
def GK (d : Nat) (was : Int) (K : Option mV → mM → Prop) (r : Option mV) (σ : mM) : Prop := ∃ z : Int, r = some (.inl z) ∧ (z = 0 ∨ z = 1) ∧ QS d was z K σ
def QG (d : Nat) (was : Int) (K : Option mV → mM → Prop) (σ : mM) : Prop := ∀ o1, At (d + 8) 249 0 [some (.inr (.inr 146)), o1] [] σ (GK d was K)
def QK (d : Nat) (was : Int) (K : Option mV → mM → Prop) (r : Option mV) (σ : mM) : Prop := r = none ∧ (σ 146 5 = 0 → QG d was K σ) ∧ (σ 146 5 ≠ 0 → QS d was 0 K σ)
def QA (d : Nat) (was : Int) (K : Option mV → mM → Prop) (σ : mM) : Prop := ∀ o2 o3 o4 o5, At (d + 8) 248 1 [some (.inr (.inr 146)), some (.inl 1), o2, o3, o4, o5] [] σ (QK d was K)
def QE (d : Nat) (was : Int) (K : Option mV → mM → Prop) (σ : mM) : Prop := At (d + 7) 247 0 [some (.inr (.inr 146))] [] σ (fun r σ' => r = none ∧ σ' 146 5 = 0 ∧ QG d was K σ')
def QT (σ : mM) (N : Nat) (t : Nat → Int) (tk : Int) (s : Nat) (g : Bool) (rc up dn : List Int) (o : Nat) : Prop := QmS σ N t tk s g rc up dn o ∧ rc.length + (up ++ dn).length < s ∧ o ≤ 6
def cdN (σ : mM) : Prop := ∃ n : Nat, σ 146 89 = (n : Int) ∧ n ≤ 1602
/-- it ends: bad, where -/
def QB (d : Nat) (was : Int) (K : Option mV → mM → Prop) (σ : mM) (k p : Int) : Prop := k ≠ 0 ∧ ∀ σ' z, σ' 146 5 = k → σ' 146 6 = p → Fr fqL fqT σ σ' → cdN σ' → QS d was z K σ'
section
variable {d : Nat} {was : Int} {K : Option mV → mM → Prop} {σ σ0 : mM} {N : Nat} {t : Nat → Int} {tk : Int} {s : Nat} {g : Bool} {rc up dn : List Int} {o : Nat}
theorem QB.go {σ' : mM} {k p : Int} (h : QB d was K σ k p) (f : Fr fqL fqT σ σ') : QB d was K σ' k p := ⟨h.1, fun σ2 z h1 h2 f2 c => h.2 σ2 z h1 h2 (f.trans f2) c⟩
theorem QT.le (h : QT σ N t tk s g rc up dn o) : s ≤ N ∧ N ≤ 1600 := ⟨h.1.2.2.2.1.le, h.1.2.1.2.1⟩
theorem QT.lk {σ' : mM} (h : QT σ N t tk s g rc up dn o) (f : Fr [] lkT σ σ') (hp : PosA σ' N t s g) : QT σ' N t tk s g rc up dn o := ⟨h.1.lk f hp, h.2⟩
theorem QT.mv {σ' : mM} {s' : Nat} {g' : Bool} (h : QT σ N t tk s g rc up dn o) (f : Fr [] tmT σ σ') (hp : PosM σ' N t s' g') (hs : s ≤ s') : QT σ' N t tk s' g' rc up dn o := ⟨h.1.mv f hp hs, by have := h.2.1; omega, h.2.2⟩
theorem PosA.step {s' : Nat} (h : PosA σ N t s g) (hs : Skp N t (s + 1) s') : PosM (mj_set σ 146 2 ((s + 1 : Nat) : Int)) N t s' false := by
  refine ⟨⟨s + 1, rfl, hs⟩, ?_, fun a b => ?_⟩
  · show σ 146 4 ≤ _
    have := h.2.2.1
    have := hs.1
    omega
  · constructor
    · intro h; cases h
    · intro h2
      have h2 : σ 146 4 = (s' : Int) := h2
      have := h.2.2.1
      have := hs.1
      omega
theorem QA_bad (hb : σ 146 5 ≠ 0) (h : ∀ z, QS d was z K σ) : QA d was K σ := by
  intro o2 o3 o4 o5
  refine At.blk rfl rfl rfl fun sx => ?_
  simp (decide := true) only [RR, ms_app, toList_some, toList_none, if_true, if_false, true_and, and_true, cond_true, sm0, sm1, sm1l, sm2, lc_lt, lc_gt, lc_eq, Int.toNat_natCast, Int.reduceToNat, Nat.reduceAdd, Nat.reduceEqDiff, Int.reduceLT, Int.reduceEq, Int.reduceNeg, Int.reduceAdd, Int.reduceMul, Nat.reduceMul, ms_n, ms_i, ms_l, ms_p, PM]
  rw [if_neg hb]
  refine At.blk rfl rfl rfl fun sx => ?_
  simp (decide := true) only [RR, ms_app, toList_some, toList_none, if_true, if_false, true_and, and_true, cond_true, sm0, sm1, sm1l, sm2, lc_lt, lc_gt, lc_eq, Int.toNat_natCast, Int.reduceToNat, Nat.reduceAdd, Nat.reduceEqDiff, Int.reduceLT, Int.reduceEq, Int.reduceNeg, Int.reduceAdd, Int.reduceMul, Nat.reduceMul, ms_n, ms_i, ms_l, ms_p, PM]
  rw [if_neg hb]
  exact ⟨rfl, fun h2 => absurd h2 hb, fun _ => h 0⟩
theorem QE_go {K' : mK} (h : QE d was K σ) (hK : ∀ σ', σ' 146 5 = 0 → QG d was K σ' → K' none 218 σ') : mj_cal (d + 8) 218 247 [.inr (.inr 146)] 218 σ K' :=
  cal_of rfl ((Mt.go (lv := [some (.inr (.inr 146))]) rfl rfl rfl h).mono (fun r σ' e => by
    obtain ⟨rfl, e1, e2⟩ := e
    exact hK σ' e1 e2))
theorem QE_pop (h : QT σ N t tk s g rc (60 :: up) dn (o + 1)) (hK : ∀ σ', QT σ' N t tk s g (60 :: rc) up dn o → Fr fqL fqT σ σ' → QE d was K σ') : QE d was K σ := by
  obtain ⟨sN, n16⟩ := h.le
  obtain ⟨h, hlt, ho⟩ := h
  have h' := h
  obtain ⟨h1, h2, h3, h4, h5, h6, ⟨h8, h9⟩, h10, h11, h12⟩ := h
  rw [List.cons_append] at h8 h9 h12 hlt
  simp only [List.length_cons] at h8 h12 hlt
  have hl : (up ++ dn).length = up.length + dn.length := List.length_append
  have w1 : Unit → w32 ((((up ++ dn).length + 1 : Nat) : Int) - 1) = ((up ++ dn).length : Int) := fun _ => by rw [w32_small (by omega) (by omega)]; omega
  have w2 : Unit → w32 (((o + 1 : Nat) : Int) - 1) = (o : Int) := fun _ => by rw [w32_small (by omega) (by omega)]; omega
  have ex : σ 215 (up ++ dn).length = 60 := h9.1
  unfold QE
  refine At.blk rfl rfl rfl fun sx => ?_
  simp (decide := true) only [RR, ms_app, toList_some, toList_none, if_true, if_false, true_and, and_true, cond_true, sm0, sm1, sm1l, sm2, lc_lt, lc_gt, lc_eq, Int.toNat_natCast, Int.reduceToNat, Nat.reduceAdd, Nat.reduceEqDiff, Int.reduceLT, Int.reduceEq, Int.reduceNeg, Int.reduceAdd, Int.reduceMul, Nat.reduceMul, ms_n, ms_i, ms_l, ms_p, PM, fxM h1, h3, h8, h11, w1 (), ex, h10, w2 ()]
  rw [if_pos (by omega)]
  refine ⟨⟨by omega, by omega⟩, ?_⟩
  have m1 : QmS (mj_set σ 146 92 (o : Int)) N t tk s g rc (60 :: up) dn o := by
    obtain ⟨h1, h2, h3, h4, h5, ⟨h6, h7⟩, ⟨h8, h9⟩, h10, h11, h12⟩ := h'
    exact ⟨h1.set rfl, h2.cg rfl rfl, h3, h4.cg rfl rfl, h5, ⟨h6, h7.cg (fun k _ => rfl)⟩, ⟨h8, h9.cg (fun k _ => rfl)⟩, rfl, h11, h12⟩
  refine cal_of rfl (m_qDrops m1 (fun σ2 m2 f2 => ?_))
  simp (decide := true) only [RR, ms_app, toList_some, toList_none, if_true, if_false, true_and, and_true, cond_true, sm0, sm1, sm1l, sm2, lc_lt, lc_gt, lc_eq, Int.toNat_natCast, Int.reduceToNat, Nat.reduceAdd, Nat.reduceEqDiff, Int.reduceLT, Int.reduceEq, Int.reduceNeg, Int.reduceAdd, Int.reduceMul, Nat.reduceMul, ms_n, ms_i, ms_l, ms_p, PM]
  exact hK σ2 ⟨m2, by simp only [List.length_cons]; omega, by omega⟩ ((Fr.same.set rfl).trans f2)
theorem QE_end (h : QT σ N t tk s g rc up dn o) (hu : ∀ x l, up = x :: l → x < 60) (hK : QG d was K σ) : QE d was K σ := by
  obtain ⟨sN, n16⟩ := h.le
  obtain ⟨⟨h1, h2, h3, h4, h5, h6, ⟨h8, h9⟩, h10, h11, h12⟩, hlt, ho⟩ := h
  unfold QE
  cases up with
  | nil =>
    rw [List.nil_append] at h8
    refine At.blk rfl rfl rfl fun sx => ?_
    simp (decide := true) only [RR, ms_app, toList_some, toList_none, if_true, if_false, true_and, and_true, cond_true, sm0, sm1, sm1l, sm2, lc_lt, lc_gt, lc_eq, Int.toNat_natCast, Int.reduceToNat, Nat.reduceAdd, Nat.reduceEqDiff, Int.reduceLT, Int.reduceEq, Int.reduceNeg, Int.reduceAdd, Int.reduceMul, Nat.reduceMul, ms_n, ms_i, ms_l, ms_p, PM, h3, h8, h11]
    rw [if_neg (by omega)]
    refine At.blk rfl rfl rfl fun sx => ?_
    simp (decide := true) only [RR, ms_app, toList_some, toList_none, if_true, if_false, true_and, and_true, cond_true, sm0, sm1, sm1l, sm2, lc_lt, lc_gt, lc_eq, Int.toNat_natCast, Int.reduceToNat, Nat.reduceAdd, Nat.reduceEqDiff, Int.reduceLT, Int.reduceEq, Int.reduceNeg, Int.reduceAdd, Int.reduceMul, Nat.reduceMul, ms_n, ms_i, ms_l, ms_p, PM]
    exact ⟨h3, hK⟩
  | cons x l =>
    rw [List.cons_append] at h8 h9 h12
    simp only [List.length_cons] at h8 h12
    have hx := hu x l rfl
    have hl : (l ++ dn).length = l.length + dn.length := List.length_append
    have w1 : Unit → w32 ((((l ++ dn).length + 1 : Nat) : Int) - 1) = ((l ++ dn).length : Int) := fun _ => by rw [w32_small (by omega) (by omega)]; omega
    have ex : σ 215 (l ++ dn).length = x := h9.1
    refine At.blk rfl rfl rfl fun sx => ?_
    simp (decide := true) only [RR, ms_app, toList_some, toList_none, if_true, if_false, true_and, and_true, cond_true, sm0, sm1, sm1l, sm2, lc_lt, lc_gt, lc_eq, Int.toNat_natCast, Int.reduceToNat, Nat.reduceAdd, Nat.reduceEqDiff, Int.reduceLT, Int.reduceEq, Int.reduceNeg, Int.reduceAdd, Int.reduceMul, Nat.reduceMul, ms_n, ms_i, ms_l, ms_p, PM, fxM h1, h3, h8, h11, w1 (), ex]
    rw [if_pos (by omega)]
    refine ⟨⟨by omega, by omega⟩, ?_⟩
    rw [if_pos hx]
    refine At.blk rfl rfl rfl fun sx => ?_
    simp (decide := true) only [RR, ms_app, toList_some, toList_none, if_true, if_false, true_and, and_true, cond_true, sm0, sm1, sm1l, sm2, lc_lt, lc_gt, lc_eq, Int.toNat_natCast, Int.reduceToNat, Nat.reduceAdd, Nat.reduceEqDiff, Int.reduceLT, Int.reduceEq, Int.reduceNeg, Int.reduceAdd, Int.reduceMul, Nat.reduceMul, ms_n, ms_i, ms_l, ms_p, PM]
    exact ⟨h3, hK⟩
theorem QA_open (h : QT σ N t tk s g rc up dn o) (hi : IsSg N t s 40) (h1 : o < 6 → ∀ σ' s', QT σ' N t tk s' false rc (20 :: up) dn (o + 1) → Skp N t (s + 1) s' → Fr fqL fqT σ σ' → QA d was K σ') (h0 : o = 6 → QB d was K σ 4 (s : Int)) : QA d was K σ := by
  intro o2 o3 o4 o5
  obtain ⟨sN, n16⟩ := h.le
  have hi1 := hi.1
  refine At.blk rfl rfl rfl fun sx => ?_
  simp (decide := true) only [RR, ms_app, toList_some, toList_none, if_true, if_false, true_and, and_true, cond_true, sm0, sm1, sm1l, sm2, lc_lt, lc_gt, lc_eq, Int.toNat_natCast, Int.reduceToNat, Nat.reduceAdd, Nat.reduceEqDiff, Int.reduceLT, Int.reduceEq, Int.reduceNeg, Int.reduceAdd, Int.reduceMul, Nat.reduceMul, ms_n, ms_i, ms_l, ms_p, PM, h.1.2.2.1]
  refine cal_of rfl (m_look h.1.1 h.1.2.1 h.1.2.2.2.1 (fun σ1 f1 p1 => ?_))
  have q1 := h.lk f1 p1
  simp (decide := true) only [RR, ms_app, toList_some, toList_none, if_true, if_false, true_and, and_true, cond_true, sm0, sm1, sm1l, sm2, lc_lt, lc_gt, lc_eq, Int.toNat_natCast, Int.reduceToNat, Nat.reduceAdd, Nat.reduceEqDiff, Int.reduceLT, Int.reduceEq, Int.reduceNeg, Int.reduceAdd, Int.reduceMul, Nat.reduceMul, ms_n, ms_i, ms_l, ms_p, PM]
  refine cal_of rfl (m_qWordOf (lo := 9) (hi := 10) (tk := tk) q1.1.1 q1.1.2.1 q1.1.2.2.1 q1.1.2.2.2.1 q1.1.2.2.2.2.1.1 (by decide) (fun σ2 k f2 p2 hk => ?_))
  have q2 := q1.lk f2 p2
  have f12 := f1.trans f2
  have ec : chr0 N t s = 40 := by unfold chr0; rw [if_pos hi1]; exact hi.2
  have hlt := h.2.1
  simp (decide := true) only [RR, ms_app, toList_some, toList_none, if_true, if_false, true_and, and_true, cond_true, sm0, sm1, sm1l, sm2, lc_lt, lc_gt, lc_eq, Int.toNat_natCast, Int.reduceToNat, Nat.reduceAdd, Nat.reduceEqDiff, Int.reduceLT, Int.reduceEq, Int.reduceNeg, Int.reduceAdd, Int.reduceMul, Nat.reduceMul, ms_n, ms_i, ms_l, ms_p, PM, ec, p2.1]
  refine cal_of rfl (m_qOpens q2.1 h.2.2 (by omega) (fun ho => ?_) (fun ho => ?_))
  · obtain ⟨s', hs'⟩ := skp_ex (N := N) (t := t) (N - (s + 1)) (s + 1) rfl (by omega)
    have w0 : Unit → w32 ((s : Int) + 1) = ((s + 1 : Nat) : Int) := fun _ => by rw [w32_small (by omega) (by omega)]; omega
    have m3 := q2.1.opn (v := 20) (by omega)
    have hs1 := hs'.1
    have p3 : PosM (mj_set (mj_set (mj_set (mj_set σ2 146 92 ((o + 1 : Nat) : Int)) 215 (up ++ dn).length 20) 146 91 (((up ++ dn).length + 1 : Nat) : Int)) 146 2 ((s + 1 : Nat) : Int)) N t s' false := PosA.step (p2.cg rfl rfl) hs'
    simp (decide := true) only [RR, ms_app, toList_some, toList_none, if_true, if_false, true_and, and_true, cond_true, sm0, sm1, sm1l, sm2, lc_lt, lc_gt, lc_eq, Int.toNat_natCast, Int.reduceToNat, Nat.reduceAdd, Nat.reduceEqDiff, Int.reduceLT, Int.reduceEq, Int.reduceNeg, Int.reduceAdd, Int.reduceMul, Nat.reduceMul, ms_n, ms_i, ms_l, ms_p, PM, p2.1, w0 ()]
    refine At.blk rfl rfl rfl fun sx => ?_
    simp (decide := true) only [RR, ms_app, toList_some, toList_none, if_true, if_false, true_and, and_true, cond_true, sm0, sm1, sm1l, sm2, lc_lt, lc_gt, lc_eq, Int.toNat_natCast, Int.reduceToNat, Nat.reduceAdd, Nat.reduceEqDiff, Int.reduceLT, Int.reduceEq, Int.reduceNeg, Int.reduceAdd, Int.reduceMul, Nat.reduceMul, ms_n, ms_i, ms_l, ms_p, PM]
    refine h1 ho _ s' ⟨m3.mv (Fr.same.set rfl) p3 (by omega), by simp only [List.cons_append, List.length_cons]; omega, by omega⟩ hs' ((((((f12.mono rfl).set rfl).setr rfl).set rfl).set rfl)) _ _ _ _
  · have hb := h0 ho
    simp (decide := true) only [RR, ms_app, toList_some, toList_none, if_true, if_false, true_and, and_true, cond_true, sm0, sm1, sm1l, sm2, lc_lt, lc_gt, lc_eq, Int.toNat_natCast, Int.reduceToNat, Nat.reduceAdd, Nat.reduceEqDiff, Int.reduceLT, Int.reduceEq, Int.reduceNeg, Int.reduceAdd, Int.reduceMul, Nat.reduceMul, ms_n, ms_i, ms_l, ms_p, PM]
    refine At.blk rfl rfl rfl fun sx => ?_
    simp (decide := true) only [RR, ms_app, toList_some, toList_none, if_true, if_false, true_and, and_true, cond_true, sm0, sm1, sm1l, sm2, lc_lt, lc_gt, lc_eq, Int.toNat_natCast, Int.reduceToNat, Nat.reduceAdd, Nat.reduceEqDiff, Int.reduceLT, Int.reduceEq, Int.reduceNeg, Int.reduceAdd, Int.reduceMul, Nat.reduceMul, ms_n, ms_i, ms_l, ms_p, PM]
    refine QA_bad (σ := _) (by show (4 : Int) ≠ 0; decide) (fun z => hb.2 _ z rfl rfl ((((f12.mono rfl).set rfl).set rfl).set rfl) ⟨rc.length, by exact q2.1.2.2.2.2.2.1.1, by omega⟩) _ _ _ _
theorem QA_two (h : QT σ N t tk s g rc up dn o) (hi : ¬IsSg N t s 40) (h1 : ∀ σ1 c k o4 o5, QT σ1 N t tk s g rc up dn o → PosA σ1 N t s g → Fr fqL fqT σ σ1 → WO N t tk s g 9 10 k → At (d + 8) 248 2 [some (.inr (.inr 146)), some (.inl 1), some (.inl c), some (.inl k), o4, o5] [] σ1 (QK d was K)) : QA d was K σ := by
  intro o2 o3 o4 o5
  refine At.blk rfl rfl rfl fun sx => ?_
  simp (decide := true) only [RR, ms_app, toList_some, toList_none, if_true, if_false, true_and, and_true, cond_true, sm0, sm1, sm1l, sm2, lc_lt, lc_gt, lc_eq, Int.toNat_natCast, Int.reduceToNat, Nat.reduceAdd, Nat.reduceEqDiff, Int.reduceLT, Int.reduceEq, Int.reduceNeg, Int.reduceAdd, Int.reduceMul, Nat.reduceMul, ms_n, ms_i, ms_l, ms_p, PM, h.1.2.2.1]
  refine cal_of rfl (m_look h.1.1 h.1.2.1 h.1.2.2.2.1 (fun σ1 f1 p1 => ?_))
  have q1 := h.lk f1 p1
  simp (decide := true) only [RR, ms_app, toList_some, toList_none, if_true, if_false, true_and, and_true, cond_true, sm0, sm1, sm1l, sm2, lc_lt, lc_gt, lc_eq, Int.toNat_natCast, Int.reduceToNat, Nat.reduceAdd, Nat.reduceEqDiff, Int.reduceLT, Int.reduceEq, Int.reduceNeg, Int.reduceAdd, Int.reduceMul, Nat.reduceMul, ms_n, ms_i, ms_l, ms_p, PM]
  refine cal_of rfl (m_qWordOf (lo := 9) (hi := 10) (tk := tk) q1.1.1 q1.1.2.1 q1.1.2.2.1 q1.1.2.2.2.1 q1.1.2.2.2.2.1.1 (by decide) (fun σ2 k f2 p2 hk => ?_))
  have q2 := q1.lk f2 p2
  have ec : chr0 N t s ≠ 40 := by
    unfold chr0
    by_cases c : s < N
    · rw [if_pos c]; exact fun h => hi ⟨c, h⟩
    · rw [if_neg c]; decide
  simp (decide := true) only [RR, ms_app, toList_some, toList_none, if_true, if_false, true_and, and_true, cond_true, sm0, sm1, sm1l, sm2, lc_lt, lc_gt, lc_eq, Int.toNat_natCast, Int.reduceToNat, Nat.reduceAdd, Nat.reduceEqDiff, Int.reduceLT, Int.reduceEq, Int.reduceNeg, Int.reduceAdd, Int.reduceMul, Nat.reduceMul, ms_n, ms_i, ms_l, ms_p, PM]
  rw [if_neg ec]
  exact h1 σ2 _ k _ _ q2 p2 ((f1.trans f2).mono rfl) hk
/-- min, max -/
theorem QA_two_min {c k : Int} {w : Nat} {v : Int} (hw : w = 22 ∧ v = 21 ∨ w = 23 ∧ v = 22) {e s1 : Nat} (h : QT σ N t tk s g rc up dn o) (hi : IsWd N t s g e w) (hs1 : Skp N t e s1)
    (h1 : o < 6 → IsSg N t s1 40 → ∀ σ' s', QT σ' N t tk s' false rc (v :: up) dn (o + 1) → Skp N t (s1 + 1) s' → Fr fqL fqT σ σ' → QA d was K σ') (h0 : o = 6 → IsSg N t s1 40 → QB d was K σ 4 (s1 : Int)) (h2 : ¬IsSg N t s1 40 → QB d was K σ 1 (s1 : Int)) : ∀ o4 o5, At (d + 8) 248 2 [some (.inr (.inr 146)), some (.inl 1), some (.inl c), some (.inl k), o4, o5] [] σ (QK d was K) := by
  intro o4 o5
  obtain ⟨sN, n16⟩ := h.le
  have hlt := h.2.1
  have ef := hi.2.2.2.1
  have wl0 := (wl_tab w (by omega)).1.1
  have ew := hi.2.2.2.2.1
  have k1 := hs1.1
  have k2 := hs1.2.1
  have sg40 : sgn 40 := Or.inl rfl
  -- behind the word
  have four : ∀ (σ1 : mM) (z : Int) (o5 : Option mV), QT σ1 N t tk s1 (decide (s1 = e)) rc up dn o → Fr fqL fqT σ σ1 → (z = 1 ∧ v = 21 ∨ z = 0 ∧ v = 22) → At (d + 8) 248 4 [some (.inr (.inr 146)), some (.inl 1), some (.inl c), some (.inl k), some (.inl z), o5] [] σ1 (QK d was K) := by
    intro σ1 z o5 q1 f1 hz
    have hlt1 := q1.2.1
    refine At.blk rfl rfl rfl fun sx => ?_
    simp (decide := true) only [RR, ms_app, toList_some, toList_none, if_true, if_false, true_and, and_true, cond_true, sm0, sm1, sm1l, sm2, lc_lt, lc_gt, lc_eq, Int.toNat_natCast, Int.reduceToNat, Nat.reduceAdd, Nat.reduceEqDiff, Int.reduceLT, Int.reduceEq, Int.reduceNeg, Int.reduceAdd, Int.reduceMul, Nat.reduceMul, ms_n, ms_i, ms_l, ms_p, PM]
    refine cal_of rfl (m_look q1.1.1 q1.1.2.1 q1.1.2.2.2.1 (fun σ2 f2 p2 => ?_))
    have q2 := q1.lk f2 p2
    have f12 := f1.trans (f2.mono rfl)
    by_cases ci : IsSg N t s1 40
    · have ec : chr0 N t s1 = 40 := by unfold chr0; rw [if_pos ci.1]; exact ci.2
      simp (decide := true) only [RR, ms_app, toList_some, toList_none, if_true, if_false, true_and, and_true, cond_true, sm0, sm1, sm1l, sm2, lc_lt, lc_gt, lc_eq, Int.toNat_natCast, Int.reduceToNat, Nat.reduceAdd, Nat.reduceEqDiff, Int.reduceLT, Int.reduceEq, Int.reduceNeg, Int.reduceAdd, Int.reduceMul, Nat.reduceMul, ms_n, ms_i, ms_l, ms_p, PM, ec, p2.1]
      refine At.blk rfl rfl rfl fun sx => ?_
      simp (decide := true) only [RR, ms_app, toList_some, toList_none, if_true, if_false, true_and, and_true, cond_true, sm0, sm1, sm1l, sm2, lc_lt, lc_gt, lc_eq, Int.toNat_natCast, Int.reduceToNat, Nat.reduceAdd, Nat.reduceEqDiff, Int.reduceLT, Int.reduceEq, Int.reduceNeg, Int.reduceAdd, Int.reduceMul, Nat.reduceMul, ms_n, ms_i, ms_l, ms_p, PM]
      rw [if_neg (by omega)]
      have eight : At (d + 8) 248 8 [some (.inr (.inr 146)), some (.inl 1), some (.inl c), some (.inl k), some (.inl z), some (.inl (s1 : Int))] [.inl v, .inr (.inr 146)] σ2 (QK d was K) := by
        refine At.blk rfl rfl rfl fun sx => ?_
        simp (decide := true) only [RR, ms_app, toList_some, toList_none, if_true, if_false, true_and, and_true, cond_true, sm0, sm1, sm1l, sm2, lc_lt, lc_gt, lc_eq, Int.toNat_natCast, Int.reduceToNat, Nat.reduceAdd, Nat.reduceEqDiff, Int.reduceLT, Int.reduceEq, Int.reduceNeg, Int.reduceAdd, Int.reduceMul, Nat.reduceMul, ms_n, ms_i, ms_l, ms_p, PM]
        refine cal_of rfl (m_qOpens q2.1 h.2.2 (by omega) (fun ho => ?_) (fun ho => ?_))
        · have m3 := q2.1.opn (v := v) (by omega)
          generalize hσ3 : mj_set (mj_set (mj_set σ2 146 92 ((o + 1 : Nat) : Int)) 215 (up ++ dn).length v) 146 91 (((up ++ dn).length + 1 : Nat) : Int) = σ3 at *
          have f3 : Fr fqL fqT σ σ3 := by rw [← hσ3]; exact ((f12.set rfl).setr rfl).set rfl
          simp (decide := true) only [RR, ms_app, toList_some, toList_none, if_true, if_false, true_and, and_true, cond_true, sm0, sm1, sm1l, sm2, lc_lt, lc_gt, lc_eq, Int.toNat_natCast, Int.reduceToNat, Nat.reduceAdd, Nat.reduceEqDiff, Int.reduceLT, Int.reduceEq, Int.reduceNeg, Int.reduceAdd, Int.reduceMul, Nat.reduceMul, ms_n, ms_i, ms_l, ms_p, PM]
          refine At.blk rfl rfl rfl fun sx => ?_
          simp (decide := true) only [RR, ms_app, toList_some, toList_none, if_true, if_false, true_and, and_true, cond_true, sm0, sm1, sm1l, sm2, lc_lt, lc_gt, lc_eq, Int.toNat_natCast, Int.reduceToNat, Nat.reduceAdd, Nat.reduceEqDiff, Int.reduceLT, Int.reduceEq, Int.reduceNeg, Int.reduceAdd, Int.reduceMul, Nat.reduceMul, ms_n, ms_i, ms_l, ms_p, PM]
          refine cal_of rfl (m_asksSign sg40 m3.1 m3.2.1 m3.2.2.1 m3.2.2.2.1 (fun σ4 s4 f4 hi4 k4 p4 => ?_) (fun σ4 f4 hi4 _ _ => absurd ci hi4))
          have := k4.1
          simp (decide := true) only [RR, ms_app, toList_some, toList_none, if_true, if_false, true_and, and_true, cond_true, sm0, sm1, sm1l, sm2, lc_lt, lc_gt, lc_eq, Int.toNat_natCast, Int.reduceToNat, Nat.reduceAdd, Nat.reduceEqDiff, Int.reduceLT, Int.reduceEq, Int.reduceNeg, Int.reduceAdd, Int.reduceMul, Nat.reduceMul, ms_n, ms_i, ms_l, ms_p, PM]
          refine At.blk rfl rfl rfl fun sx => ?_
          simp (decide := true) only [RR, ms_app, toList_some, toList_none, if_true, if_false, true_and, and_true, cond_true, sm0, sm1, sm1l, sm2, lc_lt, lc_gt, lc_eq, Int.toNat_natCast, Int.reduceToNat, Nat.reduceAdd, Nat.reduceEqDiff, Int.reduceLT, Int.reduceEq, Int.reduceNeg, Int.reduceAdd, Int.reduceMul, Nat.reduceMul, ms_n, ms_i, ms_l, ms_p, PM]
          exact h1 ho ci σ4 s4 ⟨m3.mv f4 p4 (by omega), by simp only [List.cons_append, List.length_cons]; omega, by omega⟩ k4 (f3.trans (f4.mono rfl)) _ _ _ _
        · have hb := h0 ho ci
          simp (decide := true) only [RR, ms_app, toList_some, toList_none, if_true, if_false, true_and, and_true, cond_true, sm0, sm1, sm1l, sm2, lc_lt, lc_gt, lc_eq, Int.toNat_natCast, Int.reduceToNat, Nat.reduceAdd, Nat.reduceEqDiff, Int.reduceLT, Int.reduceEq, Int.reduceNeg, Int.reduceAdd, Int.reduceMul, Nat.reduceMul, ms_n, ms_i, ms_l, ms_p, PM]
          refine At.blk rfl rfl rfl fun sx => ?_
          simp (decide := true) only [RR, ms_app, toList_some, toList_none, if_true, if_false, true_and, and_true, cond_true, sm0, sm1, sm1l, sm2, lc_lt, lc_gt, lc_eq, Int.toNat_natCast, Int.reduceToNat, Nat.reduceAdd, Nat.reduceEqDiff, Int.reduceLT, Int.reduceEq, Int.reduceNeg, Int.reduceAdd, Int.reduceMul, Nat.reduceMul, ms_n, ms_i, ms_l, ms_p, PM]
          refine cal_of rfl (Mt.go (lv := [some (.inr (.inr 146)), some (.inl 40)]) rfl rfl rfl ?_)
          refine At.blk rfl rfl rfl fun sx => ?_
          simp (decide := true) only [RR, ms_app, toList_some, toList_none, if_true, if_false, true_and, and_true, cond_true, sm0, sm1, sm1l, sm2, lc_lt, lc_gt, lc_eq, Int.toNat_natCast, Int.reduceToNat, Nat.reduceAdd, Nat.reduceEqDiff, Int.reduceLT, Int.reduceEq, Int.reduceNeg, Int.reduceAdd, Int.reduceMul, Nat.reduceMul, ms_n, ms_i, ms_l, ms_p, PM]
          refine At.blk rfl rfl rfl fun sx => ?_
          simp (decide := true) only [RR, ms_app, toList_some, toList_none, if_true, if_false, true_and, and_true, cond_true, sm0, sm1, sm1l, sm2, lc_lt, lc_gt, lc_eq, Int.toNat_natCast, Int.reduceToNat, Nat.reduceAdd, Nat.reduceEqDiff, Int.reduceLT, Int.reduceEq, Int.reduceNeg, Int.reduceAdd, Int.reduceMul, Nat.reduceMul, ms_n, ms_i, ms_l, ms_p, PM]
          refine At.blk rfl rfl rfl fun sx => ?_
          simp (decide := true) only [RR, ms_app, toList_some, toList_none, if_true, if_false, true_and, and_true, cond_true, sm0, sm1, sm1l, sm2, lc_lt, lc_gt, lc_eq, Int.toNat_natCast, Int.reduceToNat, Nat.reduceAdd, Nat.reduceEqDiff, Int.reduceLT, Int.reduceEq, Int.reduceNeg, Int.reduceAdd, Int.reduceMul, Nat.reduceMul, ms_n, ms_i, ms_l, ms_p, PM]
          exact QA_bad (by show (4 : Int) ≠ 0; decide) (fun z => hb.2 _ z rfl rfl ((f12.set rfl).set rfl) ⟨rc.length, by exact q2.1.2.2.2.2.2.1.1, by omega⟩) _ _ _ _
      rcases hz with ⟨rfl, rfl⟩ | ⟨rfl, rfl⟩
      · first | rw [if_neg (by decide)] | skip
        exact eight
      · first | rw [if_pos rfl] | skip
        refine At.blk rfl rfl rfl fun sx => ?_
        simp (decide := true) only [RR, ms_app, toList_some, toList_none, if_true, if_false, true_and, and_true, cond_true, sm0, sm1, sm1l, sm2, lc_lt, lc_gt, lc_eq, Int.toNat_natCast, Int.reduceToNat, Nat.reduceAdd, Nat.reduceEqDiff, Int.reduceLT, Int.reduceEq, Int.reduceNeg, Int.reduceAdd, Int.reduceMul, Nat.reduceMul, ms_n, ms_i, ms_l, ms_p, PM]
        exact eight
    · have hb := h2 ci
      have ec : chr0 N t s1 ≠ 40 := by
        unfold chr0
        by_cases c : s1 < N
        · rw [if_pos c]; exact fun h => ci ⟨c, h⟩
        · rw [if_neg c]; decide
      simp (decide := true) only [RR, ms_app, toList_some, toList_none, if_true, if_false, true_and, and_true, cond_true, sm0, sm1, sm1l, sm2, lc_lt, lc_gt, lc_eq, Int.toNat_natCast, Int.reduceToNat, Nat.reduceAdd, Nat.reduceEqDiff, Int.reduceLT, Int.reduceEq, Int.reduceNeg, Int.reduceAdd, Int.reduceMul, Nat.reduceMul, ms_n, ms_i, ms_l, ms_p, PM]
      rw [if_neg ec]
      refine At.blk rfl rfl rfl fun sx => ?_
      simp (decide := true) only [RR, ms_app, toList_some, toList_none, if_true, if_false, true_and, and_true, cond_true, sm0, sm1, sm1l, sm2, lc_lt, lc_gt, lc_eq, Int.toNat_natCast, Int.reduceToNat, Nat.reduceAdd, Nat.reduceEqDiff, Int.reduceLT, Int.reduceEq, Int.reduceNeg, Int.reduceAdd, Int.reduceMul, Nat.reduceMul, ms_n, ms_i, ms_l, ms_p, PM]
      refine At.blk rfl rfl rfl fun sx => ?_
      simp (decide := true) only [RR, ms_app, toList_some, toList_none, if_true, if_false, true_and, and_true, cond_true, sm0, sm1, sm1l, sm2, lc_lt, lc_gt, lc_eq, Int.toNat_natCast, Int.reduceToNat, Nat.reduceAdd, Nat.reduceEqDiff, Int.reduceLT, Int.reduceEq, Int.reduceNeg, Int.reduceAdd, Int.reduceMul, Nat.reduceMul, ms_n, ms_i, ms_l, ms_p, PM]
      refine At.blk rfl rfl rfl fun sx => ?_
      simp (decide := true) only [RR, ms_app, toList_some, toList_none, if_true, if_false, true_and, and_true, cond_true, sm0, sm1, sm1l, sm2, lc_lt, lc_gt, lc_eq, Int.toNat_natCast, Int.reduceToNat, Nat.reduceAdd, Nat.reduceEqDiff, Int.reduceLT, Int.reduceEq, Int.reduceNeg, Int.reduceAdd, Int.reduceMul, Nat.reduceMul, ms_n, ms_i, ms_l, ms_p, PM]
      refine cal_of rfl (m_asksSign sg40 q2.1.1 q2.1.2.1 q2.1.2.2.1 q2.1.2.2.2.1 (fun σ4 s4 f4 hi4 k4 p4 => absurd hi4 ci) (fun σ4 f4 hi4 e5 e6 => ?_))
      simp (decide := true) only [RR, ms_app, toList_some, toList_none, if_true, if_false, true_and, and_true, cond_true, sm0, sm1, sm1l, sm2, lc_lt, lc_gt, lc_eq, Int.toNat_natCast, Int.reduceToNat, Nat.reduceAdd, Nat.reduceEqDiff, Int.reduceLT, Int.reduceEq, Int.reduceNeg, Int.reduceAdd, Int.reduceMul, Nat.reduceMul, ms_n, ms_i, ms_l, ms_p, PM]
      refine At.blk rfl rfl rfl fun sx => ?_
      simp (decide := true) only [RR, ms_app, toList_some, toList_none, if_true, if_false, true_and, and_true, cond_true, sm0, sm1, sm1l, sm2, lc_lt, lc_gt, lc_eq, Int.toNat_natCast, Int.reduceToNat, Nat.reduceAdd, Nat.reduceEqDiff, Int.reduceLT, Int.reduceEq, Int.reduceNeg, Int.reduceAdd, Int.reduceMul, Nat.reduceMul, ms_n, ms_i, ms_l, ms_p, PM]
      exact QA_bad (by rw [e5]; decide) (fun z => hb.2 _ z e5 e6 (f12.trans (f4.mono rfl)) ⟨rc.length, (f4 146 89 rfl).trans q2.1.2.2.2.2.2.1.1, by omega⟩) _ _ _ _
  have three : ∀ (σ1 : mM), QT σ1 N t tk s g rc up dn o → Fr fqL fqT σ σ1 → At (d + 8) 248 3 [some (.inr (.inr 146)), some (.inl 1), some (.inl c), some (.inl k), o4, o5] [] σ1 (QK d was K) := by
    intro σ1 q1 f1
    refine At.blk rfl rfl rfl fun sx => ?_
    simp (decide := true) only [RR, ms_app, toList_some, toList_none, if_true, if_false, true_and, and_true, cond_true, sm0, sm1, sm1l, sm2, lc_lt, lc_gt, lc_eq, Int.toNat_natCast, Int.reduceToNat, Nat.reduceAdd, Nat.reduceEqDiff, Int.reduceLT, Int.reduceEq, Int.reduceNeg, Int.reduceAdd, Int.reduceMul, Nat.reduceMul, ms_n, ms_i, ms_l, ms_p, PM, fxM q1.1.1]
    refine cal_of rfl (m_takes (w := 22) (by decide) (wr_ask (204, 22) (by decide)) q1.1.1 q1.1.2.1 q1.1.2.2.1 q1.1.2.2.2.1 (fun σ2 e2 s2 f2 hi2 k2 p2 => ?_) (fun σ2 f2 p2 hi2 => ?_))
    · obtain ⟨rfl, hw2⟩ := hi.uniq hi2 (by omega) (by decide)
      obtain rfl := hs1.uniq k2
      simp (decide := true) only [RR, ms_app, toList_some, toList_none, if_true, if_false, true_and, and_true, cond_true, sm0, sm1, sm1l, sm2, lc_lt, lc_gt, lc_eq, Int.toNat_natCast, Int.reduceToNat, Nat.reduceAdd, Nat.reduceEqDiff, Int.reduceLT, Int.reduceEq, Int.reduceNeg, Int.reduceAdd, Int.reduceMul, Nat.reduceMul, ms_n, ms_i, ms_l, ms_p, PM]
      exact four σ2 1 _ (q1.mv f2 p2 (by omega)) (f1.trans (f2.mono rfl)) (Or.inl ⟨rfl, by omega⟩)
    · have q2 := q1.lk f2 p2
      have hw3 : w = 23 ∧ v = 22 := by
        rcases hw with ⟨rfl, _⟩ | hw
        · exact absurd hi (hi2 e)
        · exact hw
      simp (decide := true) only [RR, ms_app, toList_some, toList_none, if_true, if_false, true_and, and_true, cond_true, sm0, sm1, sm1l, sm2, lc_lt, lc_gt, lc_eq, Int.toNat_natCast, Int.reduceToNat, Nat.reduceAdd, Nat.reduceEqDiff, Int.reduceLT, Int.reduceEq, Int.reduceNeg, Int.reduceAdd, Int.reduceMul, Nat.reduceMul, ms_n, ms_i, ms_l, ms_p, PM, fxM q2.1.1]
      refine cal_of rfl (m_asks (w := 23) (by decide) (wr_ask (205, 23) (by decide)) q2.1.1 q2.1.2.1 q2.1.2.2.1 q2.1.2.2.2.1 (fun σ3 e3 s3 f3 hi3 k3 p3 => ?_) (fun σ3 f3 hi3 _ _ => absurd (by rw [← hw3.1]; exact hi) (hi3 e)))
      obtain ⟨rfl, -⟩ := hi.uniq hi3 (by omega) (by decide)
      obtain rfl := hs1.uniq k3
      simp (decide := true) only [RR, ms_app, toList_some, toList_none, if_true, if_false, true_and, and_true, cond_true, sm0, sm1, sm1l, sm2, lc_lt, lc_gt, lc_eq, Int.toNat_natCast, Int.reduceToNat, Nat.reduceAdd, Nat.reduceEqDiff, Int.reduceLT, Int.reduceEq, Int.reduceNeg, Int.reduceAdd, Int.reduceMul, Nat.reduceMul, ms_n, ms_i, ms_l, ms_p, PM]
      exact four σ3 0 _ (q2.mv f3 p3 (by omega)) ((f1.trans (f2.mono rfl)).trans (f3.mono rfl)) (Or.inr ⟨rfl, hw3.2⟩)
  refine At.blk rfl rfl rfl fun sx => ?_
  simp (decide := true) only [RR, ms_app, toList_some, toList_none, if_true, if_false, true_and, and_true, cond_true, sm0, sm1, sm1l, sm2, lc_lt, lc_gt, lc_eq, Int.toNat_natCast, Int.reduceToNat, Nat.reduceAdd, Nat.reduceEqDiff, Int.reduceLT, Int.reduceEq, Int.reduceNeg, Int.reduceAdd, Int.reduceMul, Nat.reduceMul, ms_n, ms_i, ms_l, ms_p, PM, fxM h.1.1]
  refine cal_of rfl (m_isHere (w := 22) (wr_ask (204, 22) (by decide)) h.1.1 h.1.2.1 h.1.2.2.1 h.1.2.2.2.1 (fun σ1 e1 f1 p1 hi1 => ?_) (fun σ1 f1 p1 hi1 => ?_))
  · simp (decide := true) only [RR, ms_app, toList_some, toList_none, if_true, if_false, true_and, and_true, cond_true, sm0, sm1, sm1l, sm2, lc_lt, lc_gt, lc_eq, Int.toNat_natCast, Int.reduceToNat, Nat.reduceAdd, Nat.reduceEqDiff, Int.reduceLT, Int.reduceEq, Int.reduceNeg, Int.reduceAdd, Int.reduceMul, Nat.reduceMul, ms_n, ms_i, ms_l, ms_p, PM]
    exact three σ1 (h.lk f1 p1) (f1.mono rfl)
  · have q1 := h.lk f1 p1
    simp (decide := true) only [RR, ms_app, toList_some, toList_none, if_true, if_false, true_and, and_true, cond_true, sm0, sm1, sm1l, sm2, lc_lt, lc_gt, lc_eq, Int.toNat_natCast, Int.reduceToNat, Nat.reduceAdd, Nat.reduceEqDiff, Int.reduceLT, Int.reduceEq, Int.reduceNeg, Int.reduceAdd, Int.reduceMul, Nat.reduceMul, ms_n, ms_i, ms_l, ms_p, PM, fxM q1.1.1]
    refine cal_of rfl (m_isHere (w := 23) (wr_ask (205, 23) (by decide)) q1.1.1 q1.1.2.1 q1.1.2.2.1 q1.1.2.2.2.1 (fun σ2 e2 f2 p2 hi2 => ?_) (fun σ2 f2 p2 hi2 => ?_))
    · simp (decide := true) only [RR, ms_app, toList_some, toList_none, if_true, if_false, true_and, and_true, cond_true, sm0, sm1, sm1l, sm2, lc_lt, lc_gt, lc_eq, Int.toNat_natCast, Int.reduceToNat, Nat.reduceAdd, Nat.reduceEqDiff, Int.reduceLT, Int.reduceEq, Int.reduceNeg, Int.reduceAdd, Int.reduceMul, Nat.reduceMul, ms_n, ms_i, ms_l, ms_p, PM]
      exact three σ2 (q1.lk f2 p2) ((f1.trans f2).mono rfl)
    · rcases hw with ⟨rfl, _⟩ | ⟨rfl, _⟩
      · exact absurd hi (hi1 e)
      · exact absurd hi (hi2 e)
/-- neither -/
theorem QA_two_no {c k : Int} (h : QT σ N t tk s g rc up dn o) (h22 : ∀ e, ¬IsWd N t s g e 22) (h23 : ∀ e, ¬IsWd N t s g e 23) (h1 : ∀ σ1, QT σ1 N t tk s g rc up dn o → PosA σ1 N t s g → Fr fqL fqT σ σ1 → ∀ o4 o5, At (d + 8) 248 10 [some (.inr (.inr 146)), some (.inl 1), some (.inl c), some (.inl k), o4, o5] [] σ1 (QK d was K)) : ∀ o4 o5, At (d + 8) 248 2 [some (.inr (.inr 146)), some (.inl 1), some (.inl c), some (.inl k), o4, o5] [] σ (QK d was K) := by
  intro o4 o5
  refine At.blk rfl rfl rfl fun sx => ?_
  simp (decide := true) only [RR, ms_app, toList_some, toList_none, if_true, if_false, true_and, and_true, cond_true, sm0, sm1, sm1l, sm2, lc_lt, lc_gt, lc_eq, Int.toNat_natCast, Int.reduceToNat, Nat.reduceAdd, Nat.reduceEqDiff, Int.reduceLT, Int.reduceEq, Int.reduceNeg, Int.reduceAdd, Int.reduceMul, Nat.reduceMul, ms_n, ms_i, ms_l, ms_p, PM, fxM h.1.1]
  refine cal_of rfl (m_isHere (w := 22) (wr_ask (204, 22) (by decide)) h.1.1 h.1.2.1 h.1.2.2.1 h.1.2.2.2.1 (fun σ1 e1 f1 p1 hi1 => absurd hi1 (h22 e1)) (fun σ1 f1 p1 hi1 => ?_))
  have q1 := h.lk f1 p1
  simp (decide := true) only [RR, ms_app, toList_some, toList_none, if_true, if_false, true_and, and_true, cond_true, sm0, sm1, sm1l, sm2, lc_lt, lc_gt, lc_eq, Int.toNat_natCast, Int.reduceToNat, Nat.reduceAdd, Nat.reduceEqDiff, Int.reduceLT, Int.reduceEq, Int.reduceNeg, Int.reduceAdd, Int.reduceMul, Nat.reduceMul, ms_n, ms_i, ms_l, ms_p, PM, fxM q1.1.1]
  refine cal_of rfl (m_isHere (w := 23) (wr_ask (205, 23) (by decide)) q1.1.1 q1.1.2.1 q1.1.2.2.1 q1.1.2.2.2.1 (fun σ2 e2 f2 p2 hi2 => absurd hi2 (h23 e2)) (fun σ2 f2 p2 hi2 => ?_))
  simp (decide := true) only [RR, ms_app, toList_some, toList_none, if_true, if_false, true_and, and_true, cond_true, sm0, sm1, sm1l, sm2, lc_lt, lc_gt, lc_eq, Int.toNat_natCast, Int.reduceToNat, Nat.reduceAdd, Nat.reduceEqDiff, Int.reduceLT, Int.reduceEq, Int.reduceNeg, Int.reduceAdd, Int.reduceMul, Nat.reduceMul, ms_n, ms_i, ms_l, ms_p, PM]
  exact h1 σ2 (q1.lk f2 p2) p2 ((f1.trans f2).mono rfl) _ _
end
