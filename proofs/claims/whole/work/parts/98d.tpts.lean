/-! a whole sum in the model -/
section
variable {d : Nat} {K : Option mV → mM → Prop} {σ σ0 : mM} {N : Nat} {t : Nat → Int} {tk : Int} {s : Nat} {g : Bool} {rc ws : List Int} {o : Nat}
theorem QmS.base {b : List Int} (h : QmS σ N t tk s g rc (ws ++ b) [] o) : QmS (mj_set σ 146 93 (b.length : Int)) N t tk s g rc ws b o := by
  obtain ⟨h1, h2, h3, h4, h5, ⟨h6, h7⟩, ⟨h8, h9⟩, h10, h11, h12⟩ := h
  rw [List.append_nil] at h8 h9 h12
  exact ⟨h1.set rfl, h2.cg rfl rfl, h3, h4.cg rfl rfl, h5, ⟨h6, h7.cg (fun k _ => rfl)⟩, ⟨h8, h9.cg (fun k _ => rfl)⟩, h10, rfl, h12⟩
theorem QmS.base0 {b : List Int} (h : QmS σ N t tk s g rc ws b o) : QmS (mj_set σ 146 93 0) N t tk s g rc (ws ++ b) [] o := by
  obtain ⟨h1, h2, h3, h4, h5, ⟨h6, h7⟩, ⟨h8, h9⟩, h10, h11, h12⟩ := h
  refine ⟨h1.set rfl, h2.cg rfl rfl, h3, h4.cg rfl rfl, h5, ⟨h6, h7.cg (fun k _ => rfl)⟩, ⟨?_, ?_⟩, h10, rfl, ?_⟩
  · rw [List.append_nil]; exact h8
  · rw [List.append_nil]; exact h9.cg (fun k _ => rfl)
  · rw [List.append_nil]; exact h12
theorem m_qSums (h : QT σ N t tk s g rc ws [] o) (hA : QT (mj_set σ 146 93 (ws.length : Int)) N t tk s g rc [] ws o → QA d 0 K (mj_set σ 146 93 (ws.length : Int))) : Mt (d + 10) 250 [.inr (.inr 146)] σ K := by
  refine Mt.go (lv := [some (.inr (.inr 146)), none, none]) rfl rfl rfl ?_
  have e93 : σ 146 93 = 0 := h.1.2.2.2.2.2.2.2.2.1
  have e91 : σ 146 91 = (ws.length : Int) := by have := h.1.2.2.2.2.2.2.1.1; rw [List.append_nil] at this; exact this
  have q1 : QT (mj_set σ 146 93 (ws.length : Int)) N t tk s g rc [] ws o := ⟨QmS.base (ws := []) h.1, by have := h.2.1; rw [List.append_nil] at this; exact this, h.2.2⟩
  refine At.blk rfl rfl rfl fun sx => ?_
  simp (decide := true) only [RR, ms_app, toList_some, toList_none, if_true, if_false, true_and, and_true, cond_true, sm0, sm1, sm1l, sm2, lc_lt, lc_gt, lc_eq, Int.toNat_natCast, Int.reduceToNat, Nat.reduceAdd, Nat.reduceEqDiff, Int.reduceLT, Int.reduceEq, Int.reduceNeg, Int.reduceAdd, Int.reduceMul, Nat.reduceMul, ms_n, ms_i, ms_l, ms_p, PM, e93, e91]
  exact QS_go q1.1.2.2.1 (hA q1)
theorem QS_end {p b : List Int} (hq : QT σ N t tk s g rc p b o) (hK : ∀ σ', QT σ' N t tk s g (p.reverse ++ rc) b [] o → Fr fqL fqT σ σ' → K none σ') : QS d 0 0 K σ := by
  have loop : ∀ (p rc : List Int) (σ' : mM), QT σ' N t tk s g rc p b o → Fr fqL fqT σ σ' → (∀ σ', QT σ' N t tk s g (p.reverse ++ rc) b [] o → Fr fqL fqT σ σ' → K none σ') → At (d + 9) 250 4 [some (.inr (.inr 146)), some (.inl 0), some (.inl 0)] [] σ' K := by
    intro p
    induction p with
    | nil =>
      intro rc σ' q f hK
      have e91 := q.1.2.2.2.2.2.2.1.1
      have e93 := q.1.2.2.2.2.2.2.2.2.1
      rw [List.nil_append] at e91
      refine At.blk rfl rfl rfl fun sx => ?_
      simp (decide := true) only [RR, ms_app, toList_some, toList_none, if_true, if_false, true_and, and_true, cond_true, sm0, sm1, sm1l, sm2, lc_lt, lc_gt, lc_eq, Int.toNat_natCast, Int.reduceToNat, Nat.reduceAdd, Nat.reduceEqDiff, Int.reduceLT, Int.reduceEq, Int.reduceNeg, Int.reduceAdd, Int.reduceMul, Nat.reduceMul, ms_n, ms_i, ms_l, ms_p, PM, q.1.2.2.1, e91, e93]
      rw [if_neg (by omega)]
      refine At.blk rfl rfl rfl fun sx => ?_
      simp (decide := true) only [RR, ms_app, toList_some, toList_none, if_true, if_false, true_and, and_true, cond_true, sm0, sm1, sm1l, sm2, lc_lt, lc_gt, lc_eq, Int.toNat_natCast, Int.reduceToNat, Nat.reduceAdd, Nat.reduceEqDiff, Int.reduceLT, Int.reduceEq, Int.reduceNeg, Int.reduceAdd, Int.reduceMul, Nat.reduceMul, ms_n, ms_i, ms_l, ms_p, PM]
      refine hK _ ⟨q.1.base0, ?_, q.2.2⟩ (f.set rfl)
      have := q.2.1
      rw [List.append_nil]
      exact this
    | cons x p ih =>
      intro rc σ' q f hK
      have e91 := q.1.2.2.2.2.2.2.1.1
      have e93 := q.1.2.2.2.2.2.2.2.2.1
      have hlt := q.2.1
      rw [List.cons_append] at e91
      simp only [List.length_cons, List.length_append] at e91
      simp only [List.cons_append, List.length_cons] at hlt
      refine At.blk rfl rfl rfl fun sx => ?_
      simp (decide := true) only [RR, ms_app, toList_some, toList_none, if_true, if_false, true_and, and_true, cond_true, sm0, sm1, sm1l, sm2, lc_lt, lc_gt, lc_eq, Int.toNat_natCast, Int.reduceToNat, Nat.reduceAdd, Nat.reduceEqDiff, Int.reduceLT, Int.reduceEq, Int.reduceNeg, Int.reduceAdd, Int.reduceMul, Nat.reduceMul, ms_n, ms_i, ms_l, ms_p, PM, q.1.2.2.1, e91, e93]
      rw [if_pos (by omega)]
      refine cal_of rfl (m_qDrops q.1 (fun σ2 m2 f2 => ?_))
      simp (decide := true) only [RR, ms_app, toList_some, toList_none, if_true, if_false, true_and, and_true, cond_true, sm0, sm1, sm1l, sm2, lc_lt, lc_gt, lc_eq, Int.toNat_natCast, Int.reduceToNat, Nat.reduceAdd, Nat.reduceEqDiff, Int.reduceLT, Int.reduceEq, Int.reduceNeg, Int.reduceAdd, Int.reduceMul, Nat.reduceMul, ms_n, ms_i, ms_l, ms_p, PM]
      refine ih (x :: rc) σ2 ⟨m2, by simp only [List.length_cons]; omega, q.2.2⟩ (f.trans f2) (fun σ3 q3 f3 => hK σ3 ?_ f3)
      rw [List.reverse_cons, List.append_assoc]
      exact q3
  unfold QS
  refine At.blk rfl rfl rfl fun sx => ?_
  simp (decide := true) only [RR, ms_app, toList_some, toList_none, if_true, if_false, true_and, and_true, cond_true, sm0, sm1, sm1l, sm2, lc_lt, lc_gt, lc_eq, Int.toNat_natCast, Int.reduceToNat, Nat.reduceAdd, Nat.reduceEqDiff, Int.reduceLT, Int.reduceEq, Int.reduceNeg, Int.reduceAdd, Int.reduceMul, Nat.reduceMul, ms_n, ms_i, ms_l, ms_p, PM]
  exact loop p rc σ hq Fr.same hK
theorem QS_bad {z : Int} (hb : σ 146 5 ≠ 0) (hK : K none (mj_set σ 146 93 0)) : QS d 0 z K σ := by
  have four : At (d + 9) 250 4 [some (.inr (.inr 146)), some (.inl 0), some (.inl z)] [] σ K := by
    refine At.blk rfl rfl rfl fun sx => ?_
    simp (decide := true) only [RR, ms_app, toList_some, toList_none, if_true, if_false, true_and, and_true, cond_true, sm0, sm1, sm1l, sm2, lc_lt, lc_gt, lc_eq, Int.toNat_natCast, Int.reduceToNat, Nat.reduceAdd, Nat.reduceEqDiff, Int.reduceLT, Int.reduceEq, Int.reduceNeg, Int.reduceAdd, Int.reduceMul, Nat.reduceMul, ms_n, ms_i, ms_l, ms_p, PM]
    rw [if_neg hb]
    refine At.blk rfl rfl rfl fun sx => ?_
    simp (decide := true) only [RR, ms_app, toList_some, toList_none, if_true, if_false, true_and, and_true, cond_true, sm0, sm1, sm1l, sm2, lc_lt, lc_gt, lc_eq, Int.toNat_natCast, Int.reduceToNat, Nat.reduceAdd, Nat.reduceEqDiff, Int.reduceLT, Int.reduceEq, Int.reduceNeg, Int.reduceAdd, Int.reduceMul, Nat.reduceMul, ms_n, ms_i, ms_l, ms_p, PM]
    exact hK
  unfold QS
  refine At.blk rfl rfl rfl fun sx => ?_
  simp (decide := true) only [RR, ms_app, toList_some, toList_none, if_true, if_false, true_and, and_true, cond_true, sm0, sm1, sm1l, sm2, lc_lt, lc_gt, lc_eq, Int.toNat_natCast, Int.reduceToNat, Nat.reduceAdd, Nat.reduceEqDiff, Int.reduceLT, Int.reduceEq, Int.reduceNeg, Int.reduceAdd, Int.reduceMul, Nat.reduceMul, ms_n, ms_i, ms_l, ms_p, PM]
  by_cases c : z = 0
  · rw [if_pos c]; exact four
  · rw [if_neg c, if_neg hb]; exact four
/-- the sum is alike -/
theorem m_sum_ok {s' : Nat} {g' : Bool} {cs : List Int} (h : QT σ N t tk s g rc ws [] o) (hx : ¬(1 ≤ ws.headD 0 ∧ ws.headD 0 ≤ 4)) (hs : SSok N t tk o s g s' g' cs) (hn : noOp N t s') (hK : ∀ σ', QT σ' N t tk s' g' (cs.reverse ++ rc) ws [] o → Fr fqL fqT σ σ' → K none σ') : Mt (d + 10) 250 [.inr (.inr 146)] σ K := by
  refine m_qSums h (fun q1 => hs d 0 K _ rc [] ws q1 ⟨hx, fun x l e => by cases e⟩ (fun σ2 rc2 p q2 e2 hp f2 => ?_))
  rw [List.append_nil] at q2
  refine QG_fin hp q2 hn (fun σ3 q3 f3 => QS_end q3 (fun σ4 q4 f4 => ?_))
  rw [e2] at q4
  exact hK σ4 q4 ((((Fr.same.set rfl).trans f2).trans f3).trans f4)
theorem m_sum_no {k p : Int} (h : QT σ N t tk s g rc ws [] o) (hx : ¬(1 ≤ ws.headD 0 ∧ ws.headD 0 ≤ 4)) (hs : SSno N t tk o s g k p) (hK : ∀ σ', σ' 146 5 = k → σ' 146 6 = p → Fr fqL fqT σ σ' → cdN σ' → K none σ') : Mt (d + 10) 250 [.inr (.inr 146)] σ K := by
  refine m_qSums h (fun q1 => hs.2 d 0 K _ rc [] ws q1 ⟨hx, fun x l e => by cases e⟩ ⟨hs.1, fun σ2 z e5 e6 f2 c => QS_bad (by rw [e5]; exact hs.1) (hK _ e5 e6 (((Fr.same.set rfl).trans f2).set rfl) (by obtain ⟨n, a, b⟩ := c; exact ⟨n, a, b⟩))⟩)
end
/-! the points of the model's tests: qTest (254), qDropsNots (253), qGoesOnTest (255) -/
def TS (d : Nat) (z : Int) (K : Option mV → mM → Prop) (σ : mM) : Prop := ∀ o2, At (d + 12) 254 1 [some (.inr (.inr 146)), some (.inl z), o2] [] σ K
def TGK (d : Nat) (K : Option mV → mM → Prop) (r : Option mV) (σ : mM) : Prop := ∃ z : Int, r = some (.inl z) ∧ (z = 0 ∨ z = 1) ∧ TS d z K σ
def TG (d : Nat) (K : Option mV → mM → Prop) (σ : mM) : Prop := At (d + 11) 255 0 [some (.inr (.inr 146))] [] σ (TGK d K)
def TN (d : Nat) (K : Option mV → mM → Prop) (σ : mM) : Prop := ∀ dd, At (dd + 5) 253 0 [some (.inr (.inr 146))] [] σ (fun r σ' => r = none ∧ σ' 146 5 = 0 ∧ TG d K σ')
def TB (d : Nat) (K : Option mV → mM → Prop) (σ : mM) (k p : Int) : Prop := k ≠ 0 ∧ ∀ σ' z, σ' 146 5 = k → σ' 146 6 = p → Fr fqL fqT σ σ' → TS d z K σ'
section
variable {d : Nat} {K : Option mV → mM → Prop} {σ σ0 : mM} {N : Nat} {t : Nat → Int} {s : Nat} {g : Bool} {rc ws : List Int} {o : Nat}
theorem TB.go {σ' : mM} {k p : Int} (h : TB d K σ k p) (f : Fr fqL fqT σ σ') : TB d K σ' k p := ⟨h.1, fun σ2 z h1 h2 f2 => h.2 σ2 z h1 h2 (f.trans f2)⟩
theorem TN_go {dd : Nat} {K' : mK} (h : TN d K σ) (hK : ∀ σ', σ' 146 5 = 0 → TG d K σ' → K' none 218 σ') : mj_cal (dd + 6) 218 253 [.inr (.inr 146)] 218 σ K' :=
  cal_of rfl ((Mt.go (lv := [some (.inr (.inr 146))]) rfl rfl rfl (h dd)).mono (fun r σ' e => by
    obtain ⟨rfl, e1, e2⟩ := e
    exact hK σ' e1 e2))
theorem TN_pop (h : QT σ N t 2 s g rc (12 :: ws) [] (o + 1)) (hK : ∀ σ', QT σ' N t 2 s g (12 :: rc) ws [] o → Fr fqL fqT σ σ' → TN d K σ') : TN d K σ := by
  intro dd
  have h' := h
  obtain ⟨h, hlt, ho⟩ := h
  obtain ⟨h1, h2, h3, h4, h5, h6, ⟨h8, h9⟩, h10, h11, h12⟩ := id h
  have w2 : Unit → w32 (((o + 1 : Nat) : Int) - 1) = (o : Int) := fun _ => by rw [w32_small (by omega) (by omega)]; omega
  refine At.blk rfl rfl rfl fun sx => ?_
  simp (decide := true) only [RR, ms_app, toList_some, toList_none, if_true, if_false, true_and, and_true, cond_true, sm0, sm1, sm1l, sm2, lc_lt, lc_gt, lc_eq, Int.toNat_natCast, Int.reduceToNat, Nat.reduceAdd, Nat.reduceEqDiff, Int.reduceLT, Int.reduceEq, Int.reduceNeg, Int.reduceAdd, Int.reduceMul, Nat.reduceMul, ms_n, ms_i, ms_l, ms_p, PM, h3]
  refine cal_of rfl (m_qIsOn (by decide) h (fun _ => ?_) (fun hn => absurd rfl hn))
  simp (decide := true) only [RR, ms_app, toList_some, toList_none, if_true, if_false, true_and, and_true, cond_true, sm0, sm1, sm1l, sm2, lc_lt, lc_gt, lc_eq, Int.toNat_natCast, Int.reduceToNat, Nat.reduceAdd, Nat.reduceEqDiff, Int.reduceLT, Int.reduceEq, Int.reduceNeg, Int.reduceAdd, Int.reduceMul, Nat.reduceMul, ms_n, ms_i, ms_l, ms_p, PM, h10, w2 ()]
  have m1 : QmS (mj_set σ 146 92 (o : Int)) N t 2 s g rc (12 :: ws) [] o := by
    obtain ⟨h1, h2, h3, h4, h5, ⟨h6, h7⟩, ⟨h8, h9⟩, h10, h11, h12⟩ := h
    exact ⟨h1.set rfl, h2.cg rfl rfl, h3, h4.cg rfl rfl, h5, ⟨h6, h7.cg (fun k _ => rfl)⟩, ⟨h8, h9.cg (fun k _ => rfl)⟩, rfl, h11, h12⟩
  refine cal_of rfl (m_qDrops m1 (fun σ2 m2 f2 => ?_))
  simp (decide := true) only [RR, ms_app, toList_some, toList_none, if_true, if_false, true_and, and_true, cond_true, sm0, sm1, sm1l, sm2, lc_lt, lc_gt, lc_eq, Int.toNat_natCast, Int.reduceToNat, Nat.reduceAdd, Nat.reduceEqDiff, Int.reduceLT, Int.reduceEq, Int.reduceNeg, Int.reduceAdd, Int.reduceMul, Nat.reduceMul, ms_n, ms_i, ms_l, ms_p, PM]
  simp only [List.cons_append, List.length_cons] at hlt
  exact hK σ2 ⟨m2, by simp only [List.length_cons]; omega, by omega⟩ ((Fr.same.set rfl).trans f2) dd
theorem TN_end (h : QT σ N t 2 s g rc ws [] o) (hu : ws.headD 0 ≠ 12) (hK : TG d K σ) : TN d K σ := by
  intro dd
  refine At.blk rfl rfl rfl fun sx => ?_
  simp (decide := true) only [RR, ms_app, toList_some, toList_none, if_true, if_false, true_and, and_true, cond_true, sm0, sm1, sm1l, sm2, lc_lt, lc_gt, lc_eq, Int.toNat_natCast, Int.reduceToNat, Nat.reduceAdd, Nat.reduceEqDiff, Int.reduceLT, Int.reduceEq, Int.reduceNeg, Int.reduceAdd, Int.reduceMul, Nat.reduceMul, ms_n, ms_i, ms_l, ms_p, PM, h.1.2.2.1]
  refine cal_of rfl (m_qIsOn (by decide) h.1 (fun e => absurd (by rw [List.append_nil] at e; exact e) hu) (fun _ => ?_))
  simp (decide := true) only [RR, ms_app, toList_some, toList_none, if_true, if_false, true_and, and_true, cond_true, sm0, sm1, sm1l, sm2, lc_lt, lc_gt, lc_eq, Int.toNat_natCast, Int.reduceToNat, Nat.reduceAdd, Nat.reduceEqDiff, Int.reduceLT, Int.reduceEq, Int.reduceNeg, Int.reduceAdd, Int.reduceMul, Nat.reduceMul, ms_n, ms_i, ms_l, ms_p, PM]
  refine At.blk rfl rfl rfl fun sx => ?_
  simp (decide := true) only [RR, ms_app, toList_some, toList_none, if_true, if_false, true_and, and_true, cond_true, sm0, sm1, sm1l, sm2, lc_lt, lc_gt, lc_eq, Int.toNat_natCast, Int.reduceToNat, Nat.reduceAdd, Nat.reduceEqDiff, Int.reduceLT, Int.reduceEq, Int.reduceNeg, Int.reduceAdd, Int.reduceMul, Nat.reduceMul, ms_n, ms_i, ms_l, ms_p, PM]
  exact ⟨h.1.2.2.1, hK⟩
theorem T_square (h : QT σ N t 2 s g rc ws [] o) (hi : IsSg N t s 91) (h1 : o < 6 → ∀ σ' s', QT σ' N t 2 s' false rc (25 :: ws) [] (o + 1) → Skp N t (s + 1) s' → Fr fqL fqT σ σ' → TS d 1 K σ') (h0 : o = 6 → TB d K σ 4 (s : Int)) : TS d 1 K σ := by
  intro o2
  obtain ⟨sN, n16⟩ := h.le
  have hi1 := hi.1
  have hlt := h.2.1
  refine At.blk rfl rfl rfl fun sx => ?_
  simp (decide := true) only [RR, ms_app, toList_some, toList_none, if_true, if_false, true_and, and_true, cond_true, sm0, sm1, sm1l, sm2, lc_lt, lc_gt, lc_eq, Int.toNat_natCast, Int.reduceToNat, Nat.reduceAdd, Nat.reduceEqDiff, Int.reduceLT, Int.reduceEq, Int.reduceNeg, Int.reduceAdd, Int.reduceMul, Nat.reduceMul, ms_n, ms_i, ms_l, ms_p, PM, h.1.2.2.1]
  refine cal_of rfl (m_look h.1.1 h.1.2.1 h.1.2.2.2.1 (fun σ1 f1 p1 => ?_))
  have q1 := h.lk f1 p1
  have ec : chr0 N t s = 91 := by unfold chr0; rw [if_pos hi1]; exact hi.2
  simp (decide := true) only [RR, ms_app, toList_some, toList_none, if_true, if_false, true_and, and_true, cond_true, sm0, sm1, sm1l, sm2, lc_lt, lc_gt, lc_eq, Int.toNat_natCast, Int.reduceToNat, Nat.reduceAdd, Nat.reduceEqDiff, Int.reduceLT, Int.reduceEq, Int.reduceNeg, Int.reduceAdd, Int.reduceMul, Nat.reduceMul, ms_n, ms_i, ms_l, ms_p, PM, ec, p1.1]
  refine cal_of rfl (m_qOpens q1.1 h.2.2 (by omega) (fun ho => ?_) (fun ho => ?_))
  · obtain ⟨s', hs'⟩ := skp_ex (N := N) (t := t) (N - (s + 1)) (s + 1) rfl (by omega)
    have w0 : Unit → w32 ((s : Int) + 1) = ((s + 1 : Nat) : Int) := fun _ => by rw [w32_small (by omega) (by omega)]; omega
    have m3 := q1.1.opn (v := 25) (by omega)
    have hs1 := hs'.1
    have p3 : PosM (mj_set (mj_set (mj_set (mj_set σ1 146 92 ((o + 1 : Nat) : Int)) 215 (ws ++ []).length 25) 146 91 (((ws ++ []).length + 1 : Nat) : Int)) 146 2 ((s + 1 : Nat) : Int)) N t s' false := PosA.step (p1.cg rfl rfl) hs'
    simp (decide := true) only [RR, ms_app, toList_some, toList_none, if_true, if_false, true_and, and_true, cond_true, sm0, sm1, sm1l, sm2, lc_lt, lc_gt, lc_eq, Int.toNat_natCast, Int.reduceToNat, Nat.reduceAdd, Nat.reduceEqDiff, Int.reduceLT, Int.reduceEq, Int.reduceNeg, Int.reduceAdd, Int.reduceMul, Nat.reduceMul, ms_n, ms_i, ms_l, ms_p, PM, p1.1, w0 ()]
    exact h1 ho _ s' ⟨m3.mv (Fr.same.set rfl) p3 (by omega), by simp only [List.cons_append, List.length_cons]; omega, by omega⟩ hs' (((((f1.mono rfl).set rfl).setr rfl).set rfl).set rfl) _
  · have hb := h0 ho
    simp (decide := true) only [RR, ms_app, toList_some, toList_none, if_true, if_false, true_and, and_true, cond_true, sm0, sm1, sm1l, sm2, lc_lt, lc_gt, lc_eq, Int.toNat_natCast, Int.reduceToNat, Nat.reduceAdd, Nat.reduceEqDiff, Int.reduceLT, Int.reduceEq, Int.reduceNeg, Int.reduceAdd, Int.reduceMul, Nat.reduceMul, ms_n, ms_i, ms_l, ms_p, PM]
    exact hb.2 _ 1 rfl rfl ((((f1.mono rfl).set rfl).set rfl).set rfl) _
theorem T_two (h : QT σ N t 2 s g rc ws [] o) (hi : ¬IsSg N t s 91) (h1 : ∀ σ1 c, QT σ1 N t 2 s g rc ws [] o → PosA σ1 N t s g → Fr fqL fqT σ σ1 → At (d + 12) 254 2 [some (.inr (.inr 146)), some (.inl 1), some (.inl c)] [] σ1 K) : TS d 1 K σ := by
  intro o2
  refine At.blk rfl rfl rfl fun sx => ?_
  simp (decide := true) only [RR, ms_app, toList_some, toList_none, if_true, if_false, true_and, and_true, cond_true, sm0, sm1, sm1l, sm2, lc_lt, lc_gt, lc_eq, Int.toNat_natCast, Int.reduceToNat, Nat.reduceAdd, Nat.reduceEqDiff, Int.reduceLT, Int.reduceEq, Int.reduceNeg, Int.reduceAdd, Int.reduceMul, Nat.reduceMul, ms_n, ms_i, ms_l, ms_p, PM, h.1.2.2.1]
  refine cal_of rfl (m_look h.1.1 h.1.2.1 h.1.2.2.2.1 (fun σ1 f1 p1 => ?_))
  have q1 := h.lk f1 p1
  have ec : chr0 N t s ≠ 91 := by
    unfold chr0
    by_cases c : s < N
    · rw [if_pos c]; exact fun h => hi ⟨c, h⟩
    · rw [if_neg c]; decide
  simp (decide := true) only [RR, ms_app, toList_some, toList_none, if_true, if_false, true_and, and_true, cond_true, sm0, sm1, sm1l, sm2, lc_lt, lc_gt, lc_eq, Int.toNat_natCast, Int.reduceToNat, Nat.reduceAdd, Nat.reduceEqDiff, Int.reduceLT, Int.reduceEq, Int.reduceNeg, Int.reduceAdd, Int.reduceMul, Nat.reduceMul, ms_n, ms_i, ms_l, ms_p, PM]
  rw [if_neg ec]
  exact h1 σ1 _ q1 p1 (f1.mono rfl)
theorem T_not {e : Nat} (h : QT σ N t 2 s g rc ws [] o) (hi : IsWd N t s g e 20) (h1 : o < 6 → ∀ σ' s', QT σ' N t 2 s' (decide (s' = e)) rc (12 :: ws) [] (o + 1) → Skp N t e s' → Fr fqL fqT σ σ' → TS d 1 K σ') (h0 : o = 6 → TB d K σ 4 (s : Int)) : TS d 1 K σ := by
  refine T_two h (hi.noS (by unfold sgn; omega)) (fun σ1 c q1 p1 f1 => ?_)
  obtain ⟨sN, n16⟩ := h.le
  have hlt := h.2.1
  have hel := hi.lt (by decide)
  refine At.blk rfl rfl rfl fun sx => ?_
  simp (decide := true) only [RR, ms_app, toList_some, toList_none, if_true, if_false, true_and, and_true, cond_true, sm0, sm1, sm1l, sm2, lc_lt, lc_gt, lc_eq, Int.toNat_natCast, Int.reduceToNat, Nat.reduceAdd, Nat.reduceEqDiff, Int.reduceLT, Int.reduceEq, Int.reduceNeg, Int.reduceAdd, Int.reduceMul, Nat.reduceMul, ms_n, ms_i, ms_l, ms_p, PM, fxM q1.1.1]
  refine cal_of rfl (m_isHere (w := 20) (wr_ask (200, 20) (by decide)) q1.1.1 q1.1.2.1 q1.1.2.2.1 q1.1.2.2.2.1 (fun σ2 e2 f2 p2 hi2 => ?_) (fun σ2 f2 p2 hi2 => absurd hi (hi2 e)))
  have q2 := q1.lk f2 p2
  have f12 := f1.trans (f2.mono rfl)
  simp (decide := true) only [RR, ms_app, toList_some, toList_none, if_true, if_false, true_and, and_true, cond_true, sm0, sm1, sm1l, sm2, lc_lt, lc_gt, lc_eq, Int.toNat_natCast, Int.reduceToNat, Nat.reduceAdd, Nat.reduceEqDiff, Int.reduceLT, Int.reduceEq, Int.reduceNeg, Int.reduceAdd, Int.reduceMul, Nat.reduceMul, ms_n, ms_i, ms_l, ms_p, PM, p2.1]
  refine cal_of rfl (m_qOpens q2.1 h.2.2 (by omega) (fun ho => ?_) (fun ho => ?_))
  · have m3 := q2.1.opn (v := 12) (by omega)
    generalize hσ3 : mj_set (mj_set (mj_set σ2 146 92 ((o + 1 : Nat) : Int)) 215 (ws ++ []).length 12) 146 91 (((ws ++ []).length + 1 : Nat) : Int) = σ3 at *
    have f3 : Fr fqL fqT σ σ3 := by rw [← hσ3]; exact ((f12.set rfl).setr rfl).set rfl
    simp (decide := true) only [RR, ms_app, toList_some, toList_none, if_true, if_false, true_and, and_true, cond_true, sm0, sm1, sm1l, sm2, lc_lt, lc_gt, lc_eq, Int.toNat_natCast, Int.reduceToNat, Nat.reduceAdd, Nat.reduceEqDiff, Int.reduceLT, Int.reduceEq, Int.reduceNeg, Int.reduceAdd, Int.reduceMul, Nat.reduceMul, ms_n, ms_i, ms_l, ms_p, PM, fxM m3.1]
    refine cal_of rfl (m_asks (w := 20) (by decide) (wr_ask (200, 20) (by decide)) m3.1 m3.2.1 m3.2.2.1 m3.2.2.2.1 (fun σ4 e4 s4 f4 hi4 k4 p4 => ?_) (fun σ4 f4 hi4 _ _ => absurd hi (hi4 e)))
    obtain ⟨rfl, -⟩ := hi.uniq hi4 (by decide) (by decide)
    have := k4.1
    simp (decide := true) only [RR, ms_app, toList_some, toList_none, if_true, if_false, true_and, and_true, cond_true, sm0, sm1, sm1l, sm2, lc_lt, lc_gt, lc_eq, Int.toNat_natCast, Int.reduceToNat, Nat.reduceAdd, Nat.reduceEqDiff, Int.reduceLT, Int.reduceEq, Int.reduceNeg, Int.reduceAdd, Int.reduceMul, Nat.reduceMul, ms_n, ms_i, ms_l, ms_p, PM]
    exact h1 ho σ4 s4 ⟨m3.mv f4 p4 (by omega), by simp only [List.cons_append, List.length_cons]; omega, by omega⟩ k4 (f3.trans (f4.mono rfl)) _
  · have hb := h0 ho
    simp (decide := true) only [RR, ms_app, toList_some, toList_none, if_true, if_false, true_and, and_true, cond_true, sm0, sm1, sm1l, sm2, lc_lt, lc_gt, lc_eq, Int.toNat_natCast, Int.reduceToNat, Nat.reduceAdd, Nat.reduceEqDiff, Int.reduceLT, Int.reduceEq, Int.reduceNeg, Int.reduceAdd, Int.reduceMul, Nat.reduceMul, ms_n, ms_i, ms_l, ms_p, PM, fxM q2.1.1]
    refine cal_of rfl (Mt.go (lv := [some (.inr (.inr 146)), some (.inr (.inr 200))]) rfl rfl rfl ?_)
    refine At.blk rfl rfl rfl fun sx => ?_
    simp (decide := true) only [RR, ms_app, toList_some, toList_none, if_true, if_false, true_and, and_true, cond_true, sm0, sm1, sm1l, sm2, lc_lt, lc_gt, lc_eq, Int.toNat_natCast, Int.reduceToNat, Nat.reduceAdd, Nat.reduceEqDiff, Int.reduceLT, Int.reduceEq, Int.reduceNeg, Int.reduceAdd, Int.reduceMul, Nat.reduceMul, ms_n, ms_i, ms_l, ms_p, PM]
    refine At.blk rfl rfl rfl fun sx => ?_
    simp (decide := true) only [RR, ms_app, toList_some, toList_none, if_true, if_false, true_and, and_true, cond_true, sm0, sm1, sm1l, sm2, lc_lt, lc_gt, lc_eq, Int.toNat_natCast, Int.reduceToNat, Nat.reduceAdd, Nat.reduceEqDiff, Int.reduceLT, Int.reduceEq, Int.reduceNeg, Int.reduceAdd, Int.reduceMul, Nat.reduceMul, ms_n, ms_i, ms_l, ms_p, PM]
    exact hb.2 _ 1 rfl rfl ((f12.set rfl).set rfl) _
theorem T_three (h : QT σ N t 2 s g rc ws [] o) (hi : ¬IsSg N t s 91) (hn : ∀ e, ¬IsWd N t s g e 20) (h1 : ∀ σ1 c, QT σ1 N t 2 s g rc ws [] o → Fr fqL fqT σ σ1 → At (d + 12) 254 3 [some (.inr (.inr 146)), some (.inl 1), some (.inl c)] [] σ1 K) : TS d 1 K σ := by
  refine T_two h hi (fun σ1 c q1 p1 f1 => ?_)
  refine At.blk rfl rfl rfl fun sx => ?_
  simp (decide := true) only [RR, ms_app, toList_some, toList_none, if_true, if_false, true_and, and_true, cond_true, sm0, sm1, sm1l, sm2, lc_lt, lc_gt, lc_eq, Int.toNat_natCast, Int.reduceToNat, Nat.reduceAdd, Nat.reduceEqDiff, Int.reduceLT, Int.reduceEq, Int.reduceNeg, Int.reduceAdd, Int.reduceMul, Nat.reduceMul, ms_n, ms_i, ms_l, ms_p, PM, fxM q1.1.1]
  refine cal_of rfl (m_isHere (w := 20) (wr_ask (200, 20) (by decide)) q1.1.1 q1.1.2.1 q1.1.2.2.1 q1.1.2.2.2.1 (fun σ2 e2 f2 p2 hi2 => absurd hi2 (hn e2)) (fun σ2 f2 p2 hi2 => ?_))
  simp (decide := true) only [RR, ms_app, toList_some, toList_none, if_true, if_false, true_and, and_true, cond_true, sm0, sm1, sm1l, sm2, lc_lt, lc_gt, lc_eq, Int.toNat_natCast, Int.reduceToNat, Nat.reduceAdd, Nat.reduceEqDiff, Int.reduceLT, Int.reduceEq, Int.reduceNeg, Int.reduceAdd, Int.reduceMul, Nat.reduceMul, ms_n, ms_i, ms_l, ms_p, PM]
  exact h1 σ2 c (q1.lk f2 p2) (f1.trans (f2.mono rfl))
/-- behind qFact -/
theorem T_after {c : Int} (h : TN d K σ) : ∀ (sx : mS), mj_cal (d + 12) 218 253 [.inr (.inr 146)] 218 σ (fun r n σ' => mj_den sx 218 (mj_cal (d + 12) 218) (fun b lv st _ σ => At (d + 12) 254 b lv st σ K) (fun r _ σ => K r σ) 4 [(.aload 0, 0, 0, 0), (.getfield 0, 12, 5, 0), (.ifCond .ne 0, 4, 0, 0), (.aload 0, 0, 0, 0), (.invokevirtual 255, 1, 12, 0), (.ifCond .eq 0, 4, 0, 0), (.sipush 1, 0, 0, 0), (.goto 0, 5, 0, 0)] [some (.inr (.inr 146)), some (.inl 1), some (.inl c)] (r.toList ++ []) n σ') := by
  intro sx
  refine TN_go (dd := d + 6) h (fun σ1 e1 g1 => ?_)
  simp (decide := true) only [RR, ms_app, toList_some, toList_none, if_true, if_false, true_and, and_true, cond_true, sm0, sm1, sm1l, sm2, lc_lt, lc_gt, lc_eq, Int.toNat_natCast, Int.reduceToNat, Nat.reduceAdd, Nat.reduceEqDiff, Int.reduceLT, Int.reduceEq, Int.reduceNeg, Int.reduceAdd, Int.reduceMul, Nat.reduceMul, ms_n, ms_i, ms_l, ms_p, PM, e1]
  refine cal_of rfl ((Mt.go (lv := [some (.inr (.inr 146))]) rfl rfl rfl g1).mono (fun r σ2 e3 => ?_))
  obtain ⟨z, rfl, hz, hS⟩ := e3
  rcases hz with rfl | rfl
  · simp (decide := true) only [RR, ms_app, toList_some, toList_none, if_true, if_false, true_and, and_true, cond_true, sm0, sm1, sm1l, sm2, lc_lt, lc_gt, lc_eq, Int.toNat_natCast, Int.reduceToNat, Nat.reduceAdd, Nat.reduceEqDiff, Int.reduceLT, Int.reduceEq, Int.reduceNeg, Int.reduceAdd, Int.reduceMul, Nat.reduceMul, ms_n, ms_i, ms_l, ms_p, PM]
    refine At.blk rfl rfl rfl fun sx => ?_
    simp (decide := true) only [RR, ms_app, toList_some, toList_none, if_true, if_false, true_and, and_true, cond_true, sm0, sm1, sm1l, sm2, lc_lt, lc_gt, lc_eq, Int.toNat_natCast, Int.reduceToNat, Nat.reduceAdd, Nat.reduceEqDiff, Int.reduceLT, Int.reduceEq, Int.reduceNeg, Int.reduceAdd, Int.reduceMul, Nat.reduceMul, ms_n, ms_i, ms_l, ms_p, PM]
    refine At.blk rfl rfl rfl fun sx => ?_
    simp (decide := true) only [RR, ms_app, toList_some, toList_none, if_true, if_false, true_and, and_true, cond_true, sm0, sm1, sm1l, sm2, lc_lt, lc_gt, lc_eq, Int.toNat_natCast, Int.reduceToNat, Nat.reduceAdd, Nat.reduceEqDiff, Int.reduceLT, Int.reduceEq, Int.reduceNeg, Int.reduceAdd, Int.reduceMul, Nat.reduceMul, ms_n, ms_i, ms_l, ms_p, PM]
    exact hS _
  · simp (decide := true) only [RR, ms_app, toList_some, toList_none, if_true, if_false, true_and, and_true, cond_true, sm0, sm1, sm1l, sm2, lc_lt, lc_gt, lc_eq, Int.toNat_natCast, Int.reduceToNat, Nat.reduceAdd, Nat.reduceEqDiff, Int.reduceLT, Int.reduceEq, Int.reduceNeg, Int.reduceAdd, Int.reduceMul, Nat.reduceMul, ms_n, ms_i, ms_l, ms_p, PM]
    refine At.blk rfl rfl rfl fun sx => ?_
    simp (decide := true) only [RR, ms_app, toList_some, toList_none, if_true, if_false, true_and, and_true, cond_true, sm0, sm1, sm1l, sm2, lc_lt, lc_gt, lc_eq, Int.toNat_natCast, Int.reduceToNat, Nat.reduceAdd, Nat.reduceEqDiff, Int.reduceLT, Int.reduceEq, Int.reduceNeg, Int.reduceAdd, Int.reduceMul, Nat.reduceMul, ms_n, ms_i, ms_l, ms_p, PM]
    exact hS _
end
