theorem Inv.ring {σ : mM} (h : Inv σ) : ∃ x c : Nat, σ 146 66 = (x : Int) ∧ x < 20 ∧ σ 146 65 = (c : Int) ∧ c ≤ 20 ∧ σ 41 2 = (x : Int) ∧ σ 41 3 = (c : Int) := by
  obtain ⟨u1, u2, u3, u4, u5⟩ := h.2.2.2.2.2.2.2.2.2.2.1
  exact ⟨(σ 146 66).toNat, (σ 41 3).toNat, by omega, by omega, by omega, by omega, by omega, by omega⟩
/-- an act for tonight, on both sides -/
theorem p_tonightAct {σ : mM} (h : Inv σ) (a u v : Int) (huv : ActR u v) (hq : ∀ c m, ActR c m → (c = u ↔ m = v)) {ym : Nat} {as : List mV} {d : Nat}
    (hm : ∀ (σ1 : mM) (K : Option mV → mM → Prop), Mt (d + 3) 228 [.inr (.inr 146), .inl a, .inl 3, .inl v, .inl 1] σ1 (fun r σ2 => (r = some (.inl 0) ∨ r = some (.inl 1)) ∧ K r σ2) → Mt 1000 ym (.inr (.inr 146) :: as) σ1 K) {K : Option mV → mM → Prop}
    (hK : ∀ r σ1, (∃ w : Int, (w = 0 ∨ w = 1) ∧ r = some (.inl w) ∧ Mt 1000 ym (.inr (.inr 146) :: as) σ1 (fun r2 σ2 => r2 = some (.inl w) ∧ Inv σ2)) → K r σ1) : Mt (d + 3) 140 [.inr (.inr 0), .inl a, .inl u] σ K := by
  have hF := h.1
  obtain ⟨m1, m2, m3⟩ := h.many
  obtain ⟨x, c, x1, x2, c1, c2, x3, c3⟩ := h.ring
  refine x_actTonight hF (by omega) x3 x2 c3 c2 (fun hn => hK _ _ ⟨0, Or.inl rfl, rfl, hm _ _ ?_⟩) (fun hn => hK _ _ ⟨1, Or.inr rfl, rfl, hm _ _ ?_⟩)
  · refine m_becomes (x := x) (c := c) (by decide) (hF.set rfl) (by show 0 ≤ σ 173 2 ∧ σ 173 2 ≤ 7; omega) x1 x2 c1 c2 (fun _ => ⟨Or.inl rfl, rfl, h.ref (by decide)⟩) (fun hy => ?_)
    exfalso
    have hy : 0 ≤ a ∧ a < σ 173 2 ∧ (1 : Int) ≠ 0 ∧ σ 182 (1 + 4 * a.toNat + 3) ≠ v := hy
    have hp := h.part (p := a.toNat) (by omega)
    refine hn ⟨hy.1, by omega, fun e => hy.2.2.2 ?_⟩
    rw [show 1 + 4 * a.toNat + 3 = 4 + 4 * a.toNat by omega]
    exact (hq _ _ hp.2.2.2.2.2.2.2.1).mp e
  · have hp := h.part (p := a.toNat) (by omega)
    have hF1 := (fix_remC (x := x) (c := c) hF x2).set (q := 30) (k := a.toNat) (x := u) (nofix rfl)
    have r1 : ∀ q, q ≠ 30 → q ≠ 41 → (q < 44 ∨ 143 < q) → mj_set (remC σ x c) 30 a.toNat u q = σ q := fun q h1 h2 h3 => (ms_row h1).trans (remC_ne h2 (by omega))
    refine m_becomes (x := x) (c := c) (by decide) hF1 (by rw [r1 173 (by decide) (by decide) (by decide)]; omega) (by rw [r1 146 (by decide) (by decide) (by decide)]; exact x1) x2 (by rw [r1 146 (by decide) (by decide) (by decide)]; exact c1) c2 (fun hy => ?_) (fun hy => ?_)
    · exfalso
      rw [r1 173 (by decide) (by decide) (by decide), r1 182 (by decide) (by decide) (by decide)] at hy
      refine hy ⟨hn.1, by omega, by decide, fun e => hn.2.2 ?_⟩
      have e : σ 182 (1 + 4 * a.toNat + 3) = v := e
      rw [show 1 + 4 * a.toNat + 3 = 4 + 4 * a.toNat by omega] at e
      exact (hq _ _ hp.2.2.2.2.2.2.2.1).mpr e
    · refine ⟨Or.inr rfl, rfl, ?_⟩
      rw [keepM_set (by decide) (by decide) (by decide)]
      have := (h.keep x1 c3).act (p := a.toNat) (u := u) (v := v) (by rw [keepM_ne (by decide) (by decide), remC_ne (by decide) (by omega)]; omega) huv
      rw [show 4 + 4 * a.toNat = 1 + 4 * a.toNat + (3 : Int).toNat by show _ = 1 + 4 * a.toNat + 3; omega] at this
      exact this
theorem p_read {σ : mM} (h : Inv σ) (a b : Int) (_ : inR a) (_ : inR b) : PairI Inv 125 229 [.inl a, .inl b] σ := by
  have hF := h.1
  obtain ⟨m1, m2, m3⟩ := h.many
  have mm : ∀ (z : Int), (0 ≤ b ∧ b ≤ 20 → z = 1) → (¬(0 ≤ b ∧ b ≤ 20) → z = 0) → ∀ (σ1 : mM) (K : Option mV → mM → Prop), Mt 999 228 [.inr (.inr 146), .inl a, .inl 3, .inl b, .inl z] σ1 (fun r σ2 => (r = some (.inl 0) ∨ r = some (.inl 1)) ∧ K r σ2) → Mt 1000 229 [.inr (.inr 146), .inl a, .inl b] σ1 K := by
    intro z z1 z0 σ1 K hK
    refine Mt.go (lv := [some (.inr (.inr 146)), some (.inl a), some (.inl b)]) rfl rfl rfl ?_
    refine At.blk rfl rfl rfl fun sx => ?_
    simp (decide := true) only [RR, ms_app, toList_some, toList_none, if_true, if_false, true_and, and_true, cond_true, sm0, sm1, sm1l, sm2, lc_lt, lc_gt, lc_eq, Int.toNat_natCast, Int.reduceToNat, Nat.reduceAdd, Nat.reduceEqDiff, Int.reduceLT, Int.reduceEq, Int.reduceNeg, Int.reduceAdd, Int.reduceMul, Nat.reduceMul, ms_n, ms_i, ms_l, ms_p, PM]
    refine cal_of rfl (m_isIn ?_)
    have ez : (if 0 ≤ b ∧ b ≤ 20 then 1 else 0 : Int) = z := by
      split
      · rename_i hh; exact (z1 hh).symm
      · rename_i hh; exact (z0 hh).symm
    rw [ez]
    simp (decide := true) only [RR, ms_app, toList_some, toList_none, if_true, if_false, true_and, and_true, cond_true, sm0, sm1, sm1l, sm2, lc_lt, lc_gt, lc_eq, Int.toNat_natCast, Int.reduceToNat, Nat.reduceAdd, Nat.reduceEqDiff, Int.reduceLT, Int.reduceEq, Int.reduceNeg, Int.reduceAdd, Int.reduceMul, Nat.reduceMul, ms_n, ms_i, ms_l, ms_p, PM]
    refine cal_of rfl (hK.mono (fun r σ2 hr => ?_))
    obtain ⟨hr1 | hr1, hr2⟩ := hr
    · subst hr1
      simp (decide := true) only [RR, ms_app, toList_some, toList_none, if_true, if_false, true_and, and_true, cond_true, sm0, sm1, sm1l, sm2, lc_lt, lc_gt, lc_eq, Int.toNat_natCast, Int.reduceToNat, Nat.reduceAdd, Nat.reduceEqDiff, Int.reduceLT, Int.reduceEq, Int.reduceNeg, Int.reduceAdd, Int.reduceMul, Nat.reduceMul, ms_n, ms_i, ms_l, ms_p, PM]
      exact hr2
    · subst hr1
      simp (decide := true) only [RR, ms_app, toList_some, toList_none, if_true, if_false, true_and, and_true, cond_true, sm0, sm1, sm1l, sm2, lc_lt, lc_gt, lc_eq, Int.toNat_natCast, Int.reduceToNat, Nat.reduceAdd, Nat.reduceEqDiff, Int.reduceLT, Int.reduceEq, Int.reduceNeg, Int.reduceAdd, Int.reduceMul, Nat.reduceMul, ms_n, ms_i, ms_l, ms_p, PM]
      exact hr2
  refine Mt.go (lv := [some (.inr (.inr 0)), some (.inl a), some (.inl b)]) rfl rfl rfl ?_
  have bad : ¬(0 ≤ b ∧ b ≤ 20) → At 999 125 1 [some (.inr (.inr 0)), some (.inl a), some (.inl b)] [] σ (fun r σ1 => ∃ v, r = some (.inl v) ∧ Mt 1000 229 [.inr (.inr 146), .inl a, .inl b] σ1 (fun r2 σ2 => r2 = some (.inl v) ∧ Inv σ2)) := by
    intro hb
    refine At.blk rfl rfl rfl fun sx => ?_
    simp (decide := true) only [RR, ms_app, toList_some, toList_none, if_true, if_false, true_and, and_true, cond_true, sm0, sm1, sm1l, sm2, lc_lt, lc_gt, lc_eq, Int.toNat_natCast, Int.reduceToNat, Nat.reduceAdd, Nat.reduceEqDiff, Int.reduceLT, Int.reduceEq, Int.reduceNeg, Int.reduceAdd, Int.reduceMul, Nat.reduceMul, ms_n, ms_i, ms_l, ms_p, PX, fxX hF]
    refine cal_of rfl (x_deny (k := 2) hF (by decide) ?_)
    simp (decide := true) only [RR, ms_app, toList_some, toList_none, if_true, if_false, true_and, and_true, cond_true, sm0, sm1, sm1l, sm2, lc_lt, lc_gt, lc_eq, Int.toNat_natCast, Int.reduceToNat, Nat.reduceAdd, Nat.reduceEqDiff, Int.reduceLT, Int.reduceEq, Int.reduceNeg, Int.reduceAdd, Int.reduceMul, Nat.reduceMul, ms_n, ms_i, ms_l, ms_p, PX]
    refine ⟨0, rfl, mm 0 (fun hh => absurd hh hb) (fun _ => rfl) _ _ ?_⟩
    obtain ⟨x, c, x1, x2, c1, c2, x3, c3⟩ := h.ring
    exact m_becomes (x := x) (c := c) (by decide) (hF.set rfl) (by show 0 ≤ σ 173 2 ∧ σ 173 2 ≤ 7; omega) x1 x2 c1 c2 (fun _ => ⟨Or.inl rfl, rfl, h.ref (by decide)⟩) (fun hy => absurd rfl hy.2.2.1)
  have good : 0 ≤ b ∧ b ≤ 20 → At 999 125 2 [some (.inr (.inr 0)), some (.inl a), some (.inl b)] [] σ (fun r σ1 => ∃ v, r = some (.inl v) ∧ Mt 1000 229 [.inr (.inr 146), .inl a, .inl b] σ1 (fun r2 σ2 => r2 = some (.inl v) ∧ Inv σ2)) := by
    intro hb
    refine At.blk rfl rfl rfl fun sx => ?_
    simp (decide := true) only [RR, ms_app, toList_some, toList_none, if_true, if_false, true_and, and_true, cond_true, sm0, sm1, sm1l, sm2, lc_lt, lc_gt, lc_eq, Int.toNat_natCast, Int.reduceToNat, Nat.reduceAdd, Nat.reduceEqDiff, Int.reduceLT, Int.reduceEq, Int.reduceNeg, Int.reduceAdd, Int.reduceMul, Nat.reduceMul, ms_n, ms_i, ms_l, ms_p, PX, fxX hF]
    refine cal_of rfl (p_tonightAct (d := 996) h a b b (Or.inl ⟨hb.1, hb.2, rfl⟩) (fun c m hc => hc.num hb) (mm 1 (fun _ => rfl) (fun hh => absurd hb hh)) (fun r σ1 hr => ?_))
    obtain ⟨w, hw, rfl, hm⟩ := hr
    simp (decide := true) only [RR, ms_app, toList_some, toList_none, if_true, if_false, true_and, and_true, cond_true, sm0, sm1, sm1l, sm2, lc_lt, lc_gt, lc_eq, Int.toNat_natCast, Int.reduceToNat, Nat.reduceAdd, Nat.reduceEqDiff, Int.reduceLT, Int.reduceEq, Int.reduceNeg, Int.reduceAdd, Int.reduceMul, Nat.reduceMul, ms_n, ms_i, ms_l, ms_p, PX]
    exact ⟨hw, w, rfl, hm⟩
  refine At.blk rfl rfl rfl fun sx => ?_
  simp (decide := true) only [RR, ms_app, toList_some, toList_none, if_true, if_false, true_and, and_true, cond_true, sm0, sm1, sm1l, sm2, lc_lt, lc_gt, lc_eq, Int.toNat_natCast, Int.reduceToNat, Nat.reduceAdd, Nat.reduceEqDiff, Int.reduceLT, Int.reduceEq, Int.reduceNeg, Int.reduceAdd, Int.reduceMul, Nat.reduceMul, ms_n, ms_i, ms_l, ms_p, PX, fxX hF]
  split
  · exact bad (by omega)
  · split
    · first | exact bad (by omega) | exact good (by omega)
    · first | exact bad (by omega) | exact good (by omega)
theorem p_hush {σ : mM} (h : Inv σ) (a : Int) (_ : inR a) : PairI Inv 126 230 [.inl a] σ := by
  have hF := h.1
  have mm : ∀ (σ1 : mM) (K : Option mV → mM → Prop), Mt 999 228 [.inr (.inr 146), .inl a, .inl 3, .inl (-2), .inl 1] σ1 (fun r σ2 => (r = some (.inl 0) ∨ r = some (.inl 1)) ∧ K r σ2) → Mt 1000 230 [.inr (.inr 146), .inl a] σ1 K := by
    intro σ1 K hK
    refine Mt.go (lv := [some (.inr (.inr 146)), some (.inl a)]) rfl rfl rfl ?_
    refine At.blk rfl rfl rfl fun sx => ?_
    simp (decide := true) only [RR, ms_app, toList_some, toList_none, if_true, if_false, true_and, and_true, cond_true, sm0, sm1, sm1l, sm2, lc_lt, lc_gt, lc_eq, Int.toNat_natCast, Int.reduceToNat, Nat.reduceAdd, Nat.reduceEqDiff, Int.reduceLT, Int.reduceEq, Int.reduceNeg, Int.reduceAdd, Int.reduceMul, Nat.reduceMul, ms_n, ms_i, ms_l, ms_p, PM]
    refine cal_of rfl (hK.mono (fun r σ2 hr => ?_))
    obtain ⟨hr1 | hr1, hr2⟩ := hr
    · subst hr1
      simp (decide := true) only [RR, ms_app, toList_some, toList_none, if_true, if_false, true_and, and_true, cond_true, sm0, sm1, sm1l, sm2, lc_lt, lc_gt, lc_eq, Int.toNat_natCast, Int.reduceToNat, Nat.reduceAdd, Nat.reduceEqDiff, Int.reduceLT, Int.reduceEq, Int.reduceNeg, Int.reduceAdd, Int.reduceMul, Nat.reduceMul, ms_n, ms_i, ms_l, ms_p, PM]
      exact hr2
    · subst hr1
      simp (decide := true) only [RR, ms_app, toList_some, toList_none, if_true, if_false, true_and, and_true, cond_true, sm0, sm1, sm1l, sm2, lc_lt, lc_gt, lc_eq, Int.toNat_natCast, Int.reduceToNat, Nat.reduceAdd, Nat.reduceEqDiff, Int.reduceLT, Int.reduceEq, Int.reduceNeg, Int.reduceAdd, Int.reduceMul, Nat.reduceMul, ms_n, ms_i, ms_l, ms_p, PM]
      exact hr2
  refine Mt.go (lv := [some (.inr (.inr 0)), some (.inl a)]) rfl rfl rfl ?_
  refine At.blk rfl rfl rfl fun sx => ?_
  simp (decide := true) only [RR, ms_app, toList_some, toList_none, if_true, if_false, true_and, and_true, cond_true, sm0, sm1, sm1l, sm2, lc_lt, lc_gt, lc_eq, Int.toNat_natCast, Int.reduceToNat, Nat.reduceAdd, Nat.reduceEqDiff, Int.reduceLT, Int.reduceEq, Int.reduceNeg, Int.reduceAdd, Int.reduceMul, Nat.reduceMul, ms_n, ms_i, ms_l, ms_p, PX, fxX hF]
  refine cal_of rfl (p_tonightAct (d := 996) h a 254 (-2) (Or.inr (Or.inl ⟨rfl, rfl⟩)) (fun c m hc => hc.hush) mm (fun r σ1 hr => ?_))
  obtain ⟨w, hw, rfl, hm⟩ := hr
  simp (decide := true) only [RR, ms_app, toList_some, toList_none, if_true, if_false, true_and, and_true, cond_true, sm0, sm1, sm1l, sm2, lc_lt, lc_gt, lc_eq, Int.toNat_natCast, Int.reduceToNat, Nat.reduceAdd, Nat.reduceEqDiff, Int.reduceLT, Int.reduceEq, Int.reduceNeg, Int.reduceAdd, Int.reduceMul, Nat.reduceMul, ms_n, ms_i, ms_l, ms_p, PX]
  exact ⟨hw, w, rfl, hm⟩
theorem p_aunt {σ : mM} (h : Inv σ) (a b : Int) (_ : inR a) (_ : inR b) : PairI Inv 127 231 [.inl a, .inl b] σ := by
  have hF := h.1
  obtain ⟨m1, m2, m3⟩ := h.many
  obtain ⟨x, c, x1, x2, c1, c2, x3, c3⟩ := h.ring
  have mm : ∀ (z : Int), (0 ≤ b ∧ b ≤ 1 → z = 1) → (¬(0 ≤ b ∧ b ≤ 1) → z = 0) → ∀ (σ1 : mM) (K : Option mV → mM → Prop), Mt 999 228 [.inr (.inr 146), .inl a, .inl 1, .inl b, .inl z] σ1 (fun r σ2 => (r = some (.inl 0) ∨ r = some (.inl 1)) ∧ K r σ2) → Mt 1000 231 [.inr (.inr 146), .inl a, .inl b] σ1 K := by
    intro z z1 z0 σ1 K hK
    refine Mt.go (lv := [some (.inr (.inr 146)), some (.inl a), some (.inl b)]) rfl rfl rfl ?_
    refine At.blk rfl rfl rfl fun sx => ?_
    simp (decide := true) only [RR, ms_app, toList_some, toList_none, if_true, if_false, true_and, and_true, cond_true, sm0, sm1, sm1l, sm2, lc_lt, lc_gt, lc_eq, Int.toNat_natCast, Int.reduceToNat, Nat.reduceAdd, Nat.reduceEqDiff, Int.reduceLT, Int.reduceEq, Int.reduceNeg, Int.reduceAdd, Int.reduceMul, Nat.reduceMul, ms_n, ms_i, ms_l, ms_p, PM]
    refine cal_of rfl (m_isIn ?_)
    have ez : (if 0 ≤ b ∧ b ≤ 1 then 1 else 0 : Int) = z := by
      split
      · rename_i hh; exact (z1 hh).symm
      · rename_i hh; exact (z0 hh).symm
    rw [ez]
    simp (decide := true) only [RR, ms_app, toList_some, toList_none, if_true, if_false, true_and, and_true, cond_true, sm0, sm1, sm1l, sm2, lc_lt, lc_gt, lc_eq, Int.toNat_natCast, Int.reduceToNat, Nat.reduceAdd, Nat.reduceEqDiff, Int.reduceLT, Int.reduceEq, Int.reduceNeg, Int.reduceAdd, Int.reduceMul, Nat.reduceMul, ms_n, ms_i, ms_l, ms_p, PM]
    refine cal_of rfl (hK.mono (fun r σ2 hr => ?_))
    obtain ⟨hr1 | hr1, hr2⟩ := hr
    · subst hr1
      simp (decide := true) only [RR, ms_app, toList_some, toList_none, if_true, if_false, true_and, and_true, cond_true, sm0, sm1, sm1l, sm2, lc_lt, lc_gt, lc_eq, Int.toNat_natCast, Int.reduceToNat, Nat.reduceAdd, Nat.reduceEqDiff, Int.reduceLT, Int.reduceEq, Int.reduceNeg, Int.reduceAdd, Int.reduceMul, Nat.reduceMul, ms_n, ms_i, ms_l, ms_p, PM]
      exact hr2
    · subst hr1
      simp (decide := true) only [RR, ms_app, toList_some, toList_none, if_true, if_false, true_and, and_true, cond_true, sm0, sm1, sm1l, sm2, lc_lt, lc_gt, lc_eq, Int.toNat_natCast, Int.reduceToNat, Nat.reduceAdd, Nat.reduceEqDiff, Int.reduceLT, Int.reduceEq, Int.reduceNeg, Int.reduceAdd, Int.reduceMul, Nat.reduceMul, ms_n, ms_i, ms_l, ms_p, PM]
      exact hr2
  have sky := h.2.2.2.2.2.2.2.2.1
  have q7 := pw7 (σ 3 4).toNat (by omega)
  have sv : (0 ≤ σ 28 3 ∧ σ 28 3 < 2 ^ (σ 3 4).toNat) := by first | exact sky.2.2.1 | exact sky.2.2.2.1
  have rel : ∀ p : Nat, (p : Int) < σ 3 4 → σ 182 (1 + 4 * p + 1) = bit (σ 28 3) p := by
    intro p hp
    have := h.part hp
    first
      | (rw [show 1 + 4 * p + 1 = 2 + 4 * p by omega]; exact this.2.2.2.2.2.1)
      | (rw [show 1 + 4 * p + 1 = 3 + 4 * p by omega]; exact this.2.2.2.2.2.2.1)
  refine Mt.go (lv := [some (.inr (.inr 0)), some (.inl a), some (.inl b)]) rfl rfl rfl ?_
  refine At.blk rfl rfl rfl fun sx => ?_
  simp (decide := true) only [RR, ms_app, toList_some, toList_none, if_true, if_false, true_and, and_true, cond_true, sm0, sm1, sm1l, sm2, lc_lt, lc_gt, lc_eq, Int.toNat_natCast, Int.reduceToNat, Nat.reduceAdd, Nat.reduceEqDiff, Int.reduceLT, Int.reduceEq, Int.reduceNeg, Int.reduceAdd, Int.reduceMul, Nat.reduceMul, ms_n, ms_i, ms_l, ms_p, PX, fxX hF]
  refine cal_of rfl (x_wouldChange (by omega) (by omega) hF (fun hn => ?_) (fun hn => ?_))
  · simp (decide := true) only [RR, ms_app, toList_some, toList_none, if_true, if_false, true_and, and_true, cond_true, sm0, sm1, sm1l, sm2, lc_lt, lc_gt, lc_eq, Int.toNat_natCast, Int.reduceToNat, Nat.reduceAdd, Nat.reduceEqDiff, Int.reduceLT, Int.reduceEq, Int.reduceNeg, Int.reduceAdd, Int.reduceMul, Nat.reduceMul, ms_n, ms_i, ms_l, ms_p, PX]
    refine cal_of rfl (x_deny (k := 2) hF (by decide) ?_)
    simp (decide := true) only [RR, ms_app, toList_some, toList_none, if_true, if_false, true_and, and_true, cond_true, sm0, sm1, sm1l, sm2, lc_lt, lc_gt, lc_eq, Int.toNat_natCast, Int.reduceToNat, Nat.reduceAdd, Nat.reduceEqDiff, Int.reduceLT, Int.reduceEq, Int.reduceNeg, Int.reduceAdd, Int.reduceMul, Nat.reduceMul, ms_n, ms_i, ms_l, ms_p, PX]
    refine ⟨0, rfl, mm (if 0 ≤ b ∧ b ≤ 1 then 1 else 0) (fun hh => if_pos hh) (fun hh => if_neg hh) _ _ ?_⟩
    refine m_becomes (x := x) (c := c) (by decide) (hF.set rfl) (by show 0 ≤ σ 173 2 ∧ σ 173 2 ≤ 7; omega) x1 x2 c1 c2 (fun _ => ⟨Or.inl rfl, rfl, h.ref (by decide)⟩) (fun hy => ?_)
    exfalso
    have hy : 0 ≤ a ∧ a < σ 173 2 ∧ (if 0 ≤ b ∧ b ≤ 1 then 1 else 0 : Int) ≠ 0 ∧ σ 182 (1 + 4 * a.toNat + 1) ≠ b := hy
    rw [rel a.toNat (by omega)] at hy
    refine hn ⟨hy.1, by omega, ?_, ?_, hy.2.2.2⟩
    · have := hy.2.2.1; split at this <;> omega
    · have := hy.2.2.1; split at this <;> omega
  · simp (decide := true) only [RR, ms_app, toList_some, toList_none, if_true, if_false, true_and, and_true, cond_true, sm0, sm1, sm1l, sm2, lc_lt, lc_gt, lc_eq, Int.toNat_natCast, Int.reduceToNat, Nat.reduceAdd, Nat.reduceEqDiff, Int.reduceLT, Int.reduceEq, Int.reduceNeg, Int.reduceAdd, Int.reduceMul, Nat.reduceMul, ms_n, ms_i, ms_l, ms_p, PX]
    refine At.blk rfl rfl rfl fun sx => ?_
    simp (decide := true) only [RR, ms_app, toList_some, toList_none, if_true, if_false, true_and, and_true, cond_true, sm0, sm1, sm1l, sm2, lc_lt, lc_gt, lc_eq, Int.toNat_natCast, Int.reduceToNat, Nat.reduceAdd, Nat.reduceEqDiff, Int.reduceLT, Int.reduceEq, Int.reduceNeg, Int.reduceAdd, Int.reduceMul, Nat.reduceMul, ms_n, ms_i, ms_l, ms_p, PX, fxX hF]
    refine cal_of rfl (x_remember hF x3 x2 c3 c2 ?_)
    have r1 : ∀ q, q ≠ 41 → (q < 44 ∨ 143 < q) → remC σ x c q = σ q := fun q h2 h3 => remC_ne h2 (by omega)
    have e28 : remC σ x c 28 3 = σ 28 3 := by rw [r1 28 (by decide) (by decide)]
    simp (decide := true) only [RR, ms_app, toList_some, toList_none, if_true, if_false, true_and, and_true, cond_true, sm0, sm1, sm1l, sm2, lc_lt, lc_gt, lc_eq, Int.toNat_natCast, Int.reduceToNat, Nat.reduceAdd, Nat.reduceEqDiff, Int.reduceLT, Int.reduceEq, Int.reduceNeg, Int.reduceAdd, Int.reduceMul, Nat.reduceMul, ms_n, ms_i, ms_l, ms_p, PX, fxX (fix_remC (x := x) (c := c) hF x2), e28]
    refine ⟨1, rfl, mm 1 (fun _ => rfl) (fun hh => absurd ⟨hn.2.2.1, hn.2.2.2.1⟩ hh) _ _ ?_⟩
    obtain ⟨p, rfl⟩ := Int.eq_ofNat_of_zero_le hn.1
    rw [Int.toNat_natCast] at hn
    have xb := xor_bit (n := (σ 3 4).toNat) (p := p) (by omega) (by omega) sv.1 sv.2
    generalize i_xor (σ 28 3) (i_shl 1 (p : Int)) = u at *
    have hF1 := (fix_remC (x := x) (c := c) hF x2).set (q := 28) (k := 3) (x := u) rfl
    have r2 : ∀ q, q ≠ 28 → q ≠ 41 → (q < 44 ∨ 143 < q) → mj_set (remC σ x c) 28 3 u q = σ q := fun q h1 h2 h3 => (ms_row h1).trans (r1 q h2 h3)
    refine m_becomes (x := x) (c := c) (by decide) hF1 (by rw [r2 173 (by decide) (by decide) (by decide)]; omega) (by rw [r2 146 (by decide) (by decide) (by decide)]; exact x1) x2 (by rw [r2 146 (by decide) (by decide) (by decide)]; exact c1) c2 (fun hy => ?_) (fun hy => ?_)
    · exfalso
      rw [r2 173 (by decide) (by decide) (by decide), r2 182 (by decide) (by decide) (by decide)] at hy
      refine hy ⟨hn.1, by omega, by decide, ?_⟩
      show σ 182 (1 + 4 * p + 1) ≠ b
      rw [rel p (by omega)]
      exact hn.2.2.2.2
    · refine ⟨Or.inr rfl, rfl, ?_⟩
      rw [keepM_set (by decide) (by decide) (by decide)]
      have n34 : keepM (remC σ x c) x c 3 4 = σ 3 4 := by rw [keepM_ne (by decide) (by decide), remC_ne (by decide) (by omega)]
      have n28 : keepM (remC σ x c) x c 28 3 = σ 28 3 := by rw [keepM_ne (by decide) (by decide), remC_ne (by decide) (by omega)]
      have := (h.keep x1 c3).turnaunt (p := p) (u := u) (v := b) (by rw [n34]; omega) (by rw [n34]; exact xb.1) (by
        have := xb.2 p (by omega)
        rw [if_pos rfl] at this
        have b1 := bit01 (v := σ 28 3) (p := p)
        omega) (by
        intro j hj hne
        rw [n34] at hj
        rw [n28, xb.2 j (by omega), if_neg hne])
      rw [show 2 + 4 * p = 1 + 4 * p + 1 by omega] at this
      exact this
theorem p_deaf {σ : mM} (h : Inv σ) (a b : Int) (_ : inR a) (_ : inR b) : PairI Inv 128 232 [.inl a, .inl b] σ := by
  have hF := h.1
  obtain ⟨m1, m2, m3⟩ := h.many
  obtain ⟨x, c, x1, x2, c1, c2, x3, c3⟩ := h.ring
  have mm : ∀ (z : Int), (0 ≤ b ∧ b ≤ 1 → z = 1) → (¬(0 ≤ b ∧ b ≤ 1) → z = 0) → ∀ (σ1 : mM) (K : Option mV → mM → Prop), Mt 999 228 [.inr (.inr 146), .inl a, .inl 2, .inl b, .inl z] σ1 (fun r σ2 => (r = some (.inl 0) ∨ r = some (.inl 1)) ∧ K r σ2) → Mt 1000 232 [.inr (.inr 146), .inl a, .inl b] σ1 K := by
    intro z z1 z0 σ1 K hK
    refine Mt.go (lv := [some (.inr (.inr 146)), some (.inl a), some (.inl b)]) rfl rfl rfl ?_
    refine At.blk rfl rfl rfl fun sx => ?_
    simp (decide := true) only [RR, ms_app, toList_some, toList_none, if_true, if_false, true_and, and_true, cond_true, sm0, sm1, sm1l, sm2, lc_lt, lc_gt, lc_eq, Int.toNat_natCast, Int.reduceToNat, Nat.reduceAdd, Nat.reduceEqDiff, Int.reduceLT, Int.reduceEq, Int.reduceNeg, Int.reduceAdd, Int.reduceMul, Nat.reduceMul, ms_n, ms_i, ms_l, ms_p, PM]
    refine cal_of rfl (m_isIn ?_)
    have ez : (if 0 ≤ b ∧ b ≤ 1 then 1 else 0 : Int) = z := by
      split
      · rename_i hh; exact (z1 hh).symm
      · rename_i hh; exact (z0 hh).symm
    rw [ez]
    simp (decide := true) only [RR, ms_app, toList_some, toList_none, if_true, if_false, true_and, and_true, cond_true, sm0, sm1, sm1l, sm2, lc_lt, lc_gt, lc_eq, Int.toNat_natCast, Int.reduceToNat, Nat.reduceAdd, Nat.reduceEqDiff, Int.reduceLT, Int.reduceEq, Int.reduceNeg, Int.reduceAdd, Int.reduceMul, Nat.reduceMul, ms_n, ms_i, ms_l, ms_p, PM]
    refine cal_of rfl (hK.mono (fun r σ2 hr => ?_))
    obtain ⟨hr1 | hr1, hr2⟩ := hr
    · subst hr1
      simp (decide := true) only [RR, ms_app, toList_some, toList_none, if_true, if_false, true_and, and_true, cond_true, sm0, sm1, sm1l, sm2, lc_lt, lc_gt, lc_eq, Int.toNat_natCast, Int.reduceToNat, Nat.reduceAdd, Nat.reduceEqDiff, Int.reduceLT, Int.reduceEq, Int.reduceNeg, Int.reduceAdd, Int.reduceMul, Nat.reduceMul, ms_n, ms_i, ms_l, ms_p, PM]
      exact hr2
    · subst hr1
      simp (decide := true) only [RR, ms_app, toList_some, toList_none, if_true, if_false, true_and, and_true, cond_true, sm0, sm1, sm1l, sm2, lc_lt, lc_gt, lc_eq, Int.toNat_natCast, Int.reduceToNat, Nat.reduceAdd, Nat.reduceEqDiff, Int.reduceLT, Int.reduceEq, Int.reduceNeg, Int.reduceAdd, Int.reduceMul, Nat.reduceMul, ms_n, ms_i, ms_l, ms_p, PM]
      exact hr2
  have sky := h.2.2.2.2.2.2.2.2.1
  have q7 := pw7 (σ 3 4).toNat (by omega)
  have sv : (0 ≤ σ 28 4 ∧ σ 28 4 < 2 ^ (σ 3 4).toNat) := by first | exact sky.2.2.1 | exact sky.2.2.2.1
  have rel : ∀ p : Nat, (p : Int) < σ 3 4 → σ 182 (1 + 4 * p + 2) = bit (σ 28 4) p := by
    intro p hp
    have := h.part hp
    first
      | (rw [show 1 + 4 * p + 2 = 2 + 4 * p by omega]; exact this.2.2.2.2.2.1)
      | (rw [show 1 + 4 * p + 2 = 3 + 4 * p by omega]; exact this.2.2.2.2.2.2.1)
  refine Mt.go (lv := [some (.inr (.inr 0)), some (.inl a), some (.inl b)]) rfl rfl rfl ?_
  refine At.blk rfl rfl rfl fun sx => ?_
  simp (decide := true) only [RR, ms_app, toList_some, toList_none, if_true, if_false, true_and, and_true, cond_true, sm0, sm1, sm1l, sm2, lc_lt, lc_gt, lc_eq, Int.toNat_natCast, Int.reduceToNat, Nat.reduceAdd, Nat.reduceEqDiff, Int.reduceLT, Int.reduceEq, Int.reduceNeg, Int.reduceAdd, Int.reduceMul, Nat.reduceMul, ms_n, ms_i, ms_l, ms_p, PX, fxX hF]
  refine cal_of rfl (x_wouldChange (by omega) (by omega) hF (fun hn => ?_) (fun hn => ?_))
  · simp (decide := true) only [RR, ms_app, toList_some, toList_none, if_true, if_false, true_and, and_true, cond_true, sm0, sm1, sm1l, sm2, lc_lt, lc_gt, lc_eq, Int.toNat_natCast, Int.reduceToNat, Nat.reduceAdd, Nat.reduceEqDiff, Int.reduceLT, Int.reduceEq, Int.reduceNeg, Int.reduceAdd, Int.reduceMul, Nat.reduceMul, ms_n, ms_i, ms_l, ms_p, PX]
    refine cal_of rfl (x_deny (k := 2) hF (by decide) ?_)
    simp (decide := true) only [RR, ms_app, toList_some, toList_none, if_true, if_false, true_and, and_true, cond_true, sm0, sm1, sm1l, sm2, lc_lt, lc_gt, lc_eq, Int.toNat_natCast, Int.reduceToNat, Nat.reduceAdd, Nat.reduceEqDiff, Int.reduceLT, Int.reduceEq, Int.reduceNeg, Int.reduceAdd, Int.reduceMul, Nat.reduceMul, ms_n, ms_i, ms_l, ms_p, PX]
    refine ⟨0, rfl, mm (if 0 ≤ b ∧ b ≤ 1 then 1 else 0) (fun hh => if_pos hh) (fun hh => if_neg hh) _ _ ?_⟩
    refine m_becomes (x := x) (c := c) (by decide) (hF.set rfl) (by show 0 ≤ σ 173 2 ∧ σ 173 2 ≤ 7; omega) x1 x2 c1 c2 (fun _ => ⟨Or.inl rfl, rfl, h.ref (by decide)⟩) (fun hy => ?_)
    exfalso
    have hy : 0 ≤ a ∧ a < σ 173 2 ∧ (if 0 ≤ b ∧ b ≤ 1 then 1 else 0 : Int) ≠ 0 ∧ σ 182 (1 + 4 * a.toNat + 2) ≠ b := hy
    rw [rel a.toNat (by omega)] at hy
    refine hn ⟨hy.1, by omega, ?_, ?_, hy.2.2.2⟩
    · have := hy.2.2.1; split at this <;> omega
    · have := hy.2.2.1; split at this <;> omega
  · simp (decide := true) only [RR, ms_app, toList_some, toList_none, if_true, if_false, true_and, and_true, cond_true, sm0, sm1, sm1l, sm2, lc_lt, lc_gt, lc_eq, Int.toNat_natCast, Int.reduceToNat, Nat.reduceAdd, Nat.reduceEqDiff, Int.reduceLT, Int.reduceEq, Int.reduceNeg, Int.reduceAdd, Int.reduceMul, Nat.reduceMul, ms_n, ms_i, ms_l, ms_p, PX]
    refine At.blk rfl rfl rfl fun sx => ?_
    simp (decide := true) only [RR, ms_app, toList_some, toList_none, if_true, if_false, true_and, and_true, cond_true, sm0, sm1, sm1l, sm2, lc_lt, lc_gt, lc_eq, Int.toNat_natCast, Int.reduceToNat, Nat.reduceAdd, Nat.reduceEqDiff, Int.reduceLT, Int.reduceEq, Int.reduceNeg, Int.reduceAdd, Int.reduceMul, Nat.reduceMul, ms_n, ms_i, ms_l, ms_p, PX, fxX hF]
    refine cal_of rfl (x_remember hF x3 x2 c3 c2 ?_)
    have r1 : ∀ q, q ≠ 41 → (q < 44 ∨ 143 < q) → remC σ x c q = σ q := fun q h2 h3 => remC_ne h2 (by omega)
    have e28 : remC σ x c 28 4 = σ 28 4 := by rw [r1 28 (by decide) (by decide)]
    simp (decide := true) only [RR, ms_app, toList_some, toList_none, if_true, if_false, true_and, and_true, cond_true, sm0, sm1, sm1l, sm2, lc_lt, lc_gt, lc_eq, Int.toNat_natCast, Int.reduceToNat, Nat.reduceAdd, Nat.reduceEqDiff, Int.reduceLT, Int.reduceEq, Int.reduceNeg, Int.reduceAdd, Int.reduceMul, Nat.reduceMul, ms_n, ms_i, ms_l, ms_p, PX, fxX (fix_remC (x := x) (c := c) hF x2), e28]
    refine ⟨1, rfl, mm 1 (fun _ => rfl) (fun hh => absurd ⟨hn.2.2.1, hn.2.2.2.1⟩ hh) _ _ ?_⟩
    obtain ⟨p, rfl⟩ := Int.eq_ofNat_of_zero_le hn.1
    rw [Int.toNat_natCast] at hn
    have xb := xor_bit (n := (σ 3 4).toNat) (p := p) (by omega) (by omega) sv.1 sv.2
    generalize i_xor (σ 28 4) (i_shl 1 (p : Int)) = u at *
    have hF1 := (fix_remC (x := x) (c := c) hF x2).set (q := 28) (k := 4) (x := u) rfl
    have r2 : ∀ q, q ≠ 28 → q ≠ 41 → (q < 44 ∨ 143 < q) → mj_set (remC σ x c) 28 4 u q = σ q := fun q h1 h2 h3 => (ms_row h1).trans (r1 q h2 h3)
    refine m_becomes (x := x) (c := c) (by decide) hF1 (by rw [r2 173 (by decide) (by decide) (by decide)]; omega) (by rw [r2 146 (by decide) (by decide) (by decide)]; exact x1) x2 (by rw [r2 146 (by decide) (by decide) (by decide)]; exact c1) c2 (fun hy => ?_) (fun hy => ?_)
    · exfalso
      rw [r2 173 (by decide) (by decide) (by decide), r2 182 (by decide) (by decide) (by decide)] at hy
      refine hy ⟨hn.1, by omega, by decide, ?_⟩
      show σ 182 (1 + 4 * p + 2) ≠ b
      rw [rel p (by omega)]
      exact hn.2.2.2.2
    · refine ⟨Or.inr rfl, rfl, ?_⟩
      rw [keepM_set (by decide) (by decide) (by decide)]
      have n34 : keepM (remC σ x c) x c 3 4 = σ 3 4 := by rw [keepM_ne (by decide) (by decide), remC_ne (by decide) (by omega)]
      have n28 : keepM (remC σ x c) x c 28 4 = σ 28 4 := by rw [keepM_ne (by decide) (by decide), remC_ne (by decide) (by omega)]
      have := (h.keep x1 c3).turndeaf (p := p) (u := u) (v := b) (by rw [n34]; omega) (by rw [n34]; exact xb.1) (by
        have := xb.2 p (by omega)
        rw [if_pos rfl] at this
        have b1 := bit01 (v := σ 28 4) (p := p)
        omega) (by
        intro j hj hne
        rw [n34] at hj
        rw [n28, xb.2 j (by omega), if_neg hne])
      rw [show 3 + 4 * p = 1 + 4 * p + 2 by omega] at this
      exact this
