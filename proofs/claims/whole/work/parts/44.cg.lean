/-! the parts of the invariant, where what they speak of is the same -/
section
variable {σ σ' : mM}
theorem IvT.cg (h : IvT σ) (e1 : σ' 146 1 = σ 146 1) (e2 : σ' 1 1 = σ 1 1) (e3 : σ' 147 = σ 147) (e4 : σ' 2 = σ 2) : IvT σ' := by
  unfold IvT at *; rw [e1, e2, e3, e4]; exact h
theorem IvR.cg (h : IvR σ) (e1 : σ' 148 = σ 148) (e2 : σ' 145 = σ 145) : IvR σ' := by
  unfold IvR at *; rw [e1, e2]; exact h
theorem IvF.cg (h : IvF σ) (e1 : σ' 146 7 = σ 146 7) (e2 : σ' 19 2 = σ 19 2) (e3 : σ' 146 8 = σ 146 8) (e4 : σ' 19 3 = σ 19 3) : IvF σ' := by
  unfold IvF at *; rw [e1, e2, e3, e4]; exact h
theorem IvZ.cg (h : IvZ σ) (e1 : σ' 146 67 = σ 146 67) (e2 : σ' 0 13 = σ 0 13) : IvZ σ' := by
  unfold IvZ at *; rw [e1, e2]; exact h
theorem IvP.cg (h : IvP σ) (e1 : σ' 146 99 = σ 146 99) (e2 : σ' 0 12 = σ 0 12) (e3 : σ' 217 = σ 217) (e4 : σ' 144 = σ 144) : IvP σ' := by
  unfold IvP at *; rw [e1, e2, e3, e4]; exact h
theorem IvS.cg (h : IvS σ) (e1 : σ' 146 58 = σ 146 58) (e2 : σ' 31 1 = σ 31 1) (e3 : σ' 189 = σ 189) (e4 : σ' 32 = σ 32) (e5 : σ' 3 4 = σ 3 4) : IvS σ' := by
  unfold IvS at *; rw [e1, e2, e3, e4, e5]; exact h
theorem RuleR.cg {r : Nat} (h : RuleR σ r) (e1 : σ' 9 = σ 9) (e2 : σ' 10 = σ 10) (e3 : σ' 8 = σ 8) (e4 : σ' 179 = σ 179) (e5 : σ' 180 = σ 180) (e6 : σ' 181 = σ 181) : RuleR σ' r := by
  unfold RuleR codesOf at *; rw [e1, e2, e3, e4, e5, e6]; exact h
theorem IvC.cg (h : IvC σ) (e1 : σ' 173 = σ 173) (e2 : σ' 3 = σ 3) (e3 : σ' 178 = σ 178) (e4 : σ' 4 = σ 4) (e5 : σ' 174 = σ 174) (e6 : σ' 176 = σ 176) (e7 : σ' 6 = σ 6) (f1 : σ' 9 = σ 9) (f2 : σ' 10 = σ 10) (f3 : σ' 8 = σ 8) (f4 : σ' 179 = σ 179) (f5 : σ' 180 = σ 180) (f6 : σ' 181 = σ 181) : IvC σ' := by
  unfold IvC at *
  rw [e1, e2, e3, e4, e5, e6, e7]
  exact ⟨h.1, h.2.1, h.2.2.1, h.2.2.2.1, h.2.2.2.2.1, fun r hr => (h.2.2.2.2.2 r hr).cg f1 f2 f3 f4 f5 f6⟩
theorem SkyR.cg {s q o : Nat} (h : SkyR σ s q o) (e1 : σ' q = σ q) (e2 : σ' s = σ s) (e3 : σ' (s + 1) = σ (s + 1)) (e4 : σ' (s + 2) = σ (s + 2)) (e5 : σ' 3 4 = σ 3 4) : SkyR σ' s q o := by
  unfold SkyR at *; rw [e1, e2, e3, e4, e5]; exact h
theorem KeptR.cg {s q o : Nat} (h : KeptR σ s q o) (e1 : σ' q = σ q) (e2 : σ' s = σ s) (e3 : σ' (s + 1) = σ (s + 1)) : KeptR σ' s q o := by
  unfold KeptR at *; rw [e1, e2, e3]; exact h
theorem IvU.cg (h : IvU σ) (e1 : σ' 146 65 = σ 146 65) (e2 : σ' 41 3 = σ 41 3) (e3 : σ' 146 66 = σ 146 66) (e4 : σ' 41 2 = σ 41 2) (e5 : σ' 3 4 = σ 3 4) (e6 : σ' 193 = σ 193) (e7 : ∀ q, 44 ≤ q → q < 144 → σ' q = σ q) : IvU σ' := by
  obtain ⟨h1, h2, h3, h4, h5⟩ := h
  refine ⟨by rw [e1, e2]; exact h1, by rw [e2]; exact h2, by rw [e3]; exact h3, by rw [e4, e3]; exact h4, fun j hj => ?_⟩
  rw [e2] at hj
  rw [e3]
  have hm : ((σ 146 66 - 1 - j) % 20).toNat < 20 := by omega
  exact ⟨(h5 j hj).1.cg e6 (e7 _ (by omega) (by omega)) (e7 _ (by omega) (by omega)) (e7 _ (by omega) (by omega)) e5, (h5 j hj).2.cg e6 (e7 _ (by omega) (by omega)) (e7 _ (by omega) (by omega))⟩
theorem ms_row {σ : mM} {q k q' : Nat} {x : Int} (h : q' ≠ q) : mj_set σ q k x q' = σ q' := mj_set_ne σ q k x q' h
end
/-- a refusal is counted on both sides -/
theorem Inv.ref {σ : mM} (h : Inv σ) {k : Nat} (hk : k < 6) : Inv (mj_set (mj_set σ 145 k (w32 (σ 145 k + 1))) 148 k (w32 (σ 148 k + 1))) := by
  obtain ⟨hF, hT, hR, hf, hZ, hP, hS, hC, hN, hk2, hU, hth⟩ := h
  refine ⟨(hF.set rfl).set rfl, hT.cg rfl rfl rfl rfl, ?_, hf.cg rfl rfl rfl rfl, hZ.cg rfl rfl, hP.cg rfl rfl rfl rfl, hS.cg rfl rfl rfl rfl rfl, hC.cg rfl rfl rfl rfl rfl rfl rfl rfl rfl rfl rfl rfl rfl, hN.cg rfl rfl rfl rfl rfl, hk2.cg rfl rfl rfl, hU.cg rfl rfl rfl rfl rfl rfl (fun q h1 h2 => by rw [ms_row (by omega), ms_row (by omega)]), hth⟩
  intro j hj
  simp only [ms_app, Nat.reduceEqDiff, if_true, if_false]
  by_cases e : j = k
  · rw [if_pos e, if_pos e, hR k hk]
  · rw [if_neg e, if_neg e]; exact hR j hj
theorem x_refuse {d k : Nat} {σ : mM} {K : Option mV → mM → Prop} (hF : Fix σ) (hk : k < 6) (hK : K (some (.inl (-1))) (mj_set σ 145 k (w32 (σ 145 k + 1)))) : Mt (d + 1) 138 [.inr (.inr 0), .inl k] σ K := by
  refine Mt.go (lv := [some (.inr (.inr 0)), some (.inl k)]) rfl rfl rfl ?_
  refine At.blk rfl rfl rfl fun sx => ?_
  simp (decide := true) only [RR, ms_app, toList_some, toList_none, if_true, if_false, true_and, and_true, cond_true, sm0, sm1, sm1l, sm2, lc_lt, lc_gt, lc_eq, Int.toNat_natCast, Int.reduceToNat, Nat.reduceAdd, Nat.reduceEqDiff, Int.reduceLT, Int.reduceEq, Int.reduceNeg, Int.reduceAdd, Int.reduceMul, Nat.reduceMul, PX, fxX hF]
  exact ⟨⟨by omega, by omega⟩, ⟨by omega, by omega⟩, hK⟩
theorem x_deny {d k : Nat} {σ : mM} {K : Option mV → mM → Prop} (hF : Fix σ) (hk : k < 6) (hK : K (some (.inl 0)) (mj_set σ 145 k (w32 (σ 145 k + 1)))) : Mt (d + 1) 139 [.inr (.inr 0), .inl k] σ K := by
  refine Mt.go (lv := [some (.inr (.inr 0)), some (.inl k)]) rfl rfl rfl ?_
  refine At.blk rfl rfl rfl fun sx => ?_
  simp (decide := true) only [RR, ms_app, toList_some, toList_none, if_true, if_false, true_and, and_true, cond_true, sm0, sm1, sm1l, sm2, lc_lt, lc_gt, lc_eq, Int.toNat_natCast, Int.reduceToNat, Nat.reduceAdd, Nat.reduceEqDiff, Int.reduceLT, Int.reduceEq, Int.reduceNeg, Int.reduceAdd, Int.reduceMul, Nat.reduceMul, PX, fxX hF]
  exact ⟨⟨by omega, by omega⟩, ⟨by omega, by omega⟩, hK⟩
/-- seed -/
theorem p_seed {σ : mM} (h : Inv σ) (a : Int) (ha : inR a) : PairI Inv 132 234 [.inl a] σ := by
  have hF := h.1
  refine Mt.go (lv := [some (.inr (.inr 0)), some (.inl a)]) rfl rfl rfl ?_
  refine At.blk rfl rfl rfl fun sx => ?_
  simp (decide := true) only [RR, ms_app, toList_some, toList_none, if_true, if_false, true_and, and_true, cond_true, sm0, sm1, sm1l, sm2, lc_lt, lc_gt, lc_eq, Int.toNat_natCast, Int.reduceToNat, Nat.reduceAdd, Nat.reduceEqDiff, Int.reduceLT, Int.reduceEq, Int.reduceNeg, Int.reduceAdd, Int.reduceMul, Nat.reduceMul, PX, fxX hF]
  split
  · refine cal_of rfl (x_deny (k := 5) hF (by decide) ?_)
    simp (decide := true) only [RR, ms_app, toList_some, toList_none, if_true, if_false, true_and, and_true, cond_true, sm0, sm1, sm1l, sm2, lc_lt, lc_gt, lc_eq, Int.toNat_natCast, Int.reduceToNat, Nat.reduceAdd, Nat.reduceEqDiff, Int.reduceLT, Int.reduceEq, Int.reduceNeg, Int.reduceAdd, Int.reduceMul, Nat.reduceMul, PX]
    refine ⟨0, rfl, ?_⟩
    have hF2 : Fix (mj_set σ 145 5 (w32 (σ 145 5 + 1))) := hF.set rfl
    refine Mt.go (lv := [some (.inr (.inr 146)), some (.inl a)]) rfl rfl rfl ?_
    refine At.blk rfl rfl rfl fun sx => ?_
    simp (decide := true) only [RR, ms_app, toList_some, toList_none, if_true, if_false, true_and, and_true, cond_true, sm0, sm1, sm1l, sm2, lc_lt, lc_gt, lc_eq, Int.toNat_natCast, Int.reduceToNat, Nat.reduceAdd, Nat.reduceEqDiff, Int.reduceLT, Int.reduceEq, Int.reduceNeg, Int.reduceAdd, Int.reduceMul, Nat.reduceMul, PM, fxM hF]
    rw [if_pos (by omega)]
    exact h.ref (by decide)
  · rename_i h0
    refine At.blk rfl rfl rfl fun sx => ?_
    simp (decide := true) only [RR, ms_app, toList_some, toList_none, if_true, if_false, true_and, and_true, cond_true, sm0, sm1, sm1l, sm2, lc_lt, lc_gt, lc_eq, Int.toNat_natCast, Int.reduceToNat, Nat.reduceAdd, Nat.reduceEqDiff, Int.reduceLT, Int.reduceEq, Int.reduceNeg, Int.reduceAdd, Int.reduceMul, Nat.reduceMul, PX, fxX hF]
    refine ⟨1, rfl, ?_⟩
    refine Mt.go (lv := [some (.inr (.inr 146)), some (.inl a)]) rfl rfl rfl ?_
    refine At.blk rfl rfl rfl fun sx => ?_
    simp (decide := true) only [RR, ms_app, toList_some, toList_none, if_true, if_false, true_and, and_true, cond_true, sm0, sm1, sm1l, sm2, lc_lt, lc_gt, lc_eq, Int.toNat_natCast, Int.reduceToNat, Nat.reduceAdd, Nat.reduceEqDiff, Int.reduceLT, Int.reduceEq, Int.reduceNeg, Int.reduceAdd, Int.reduceMul, Nat.reduceMul, PM, fxM hF]
    rw [if_neg (by omega)]
    refine At.blk rfl rfl rfl fun sx => ?_
    simp (decide := true) only [RR, ms_app, toList_some, toList_none, if_true, if_false, true_and, and_true, cond_true, sm0, sm1, sm1l, sm2, lc_lt, lc_gt, lc_eq, Int.toNat_natCast, Int.reduceToNat, Nat.reduceAdd, Nat.reduceEqDiff, Int.reduceLT, Int.reduceEq, Int.reduceNeg, Int.reduceAdd, Int.reduceMul, Nat.reduceMul, PM, fxM hF]
    obtain ⟨hF, hT, hR, hf, hZ, hP, hS, hC, hN, hk2, hU, hth⟩ := h
    refine ⟨(hF.set rfl).set rfl, hT.cg rfl rfl rfl rfl, hR.cg rfl rfl, hf.cg rfl rfl rfl rfl, ?_, hP.cg rfl rfl rfl rfl, hS.cg rfl rfl rfl rfl rfl, hC.cg rfl rfl rfl rfl rfl rfl rfl rfl rfl rfl rfl rfl rfl, hN.cg rfl rfl rfl rfl rfl, hk2.cg rfl rfl rfl, hU.cg rfl rfl rfl rfl rfl rfl (fun q h1 h2 => by rw [ms_row (by omega), ms_row (by omega)]), hth⟩
    exact ⟨rfl, by show 0 ≤ a; omega, by show a ≤ _; have := ha.2; omega⟩
/-- end -/
theorem p_end {σ : mM} (h : Inv σ) (a : Int) (ha : inR a) : PairI Inv 107 154 [.inl a] σ := by
  have hF := h.1
  obtain ⟨t1, t2, t3⟩ := h.2.1
  refine Mt.go (lv := [some (.inr (.inr 0)), some (.inl a)]) rfl rfl rfl ?_
  refine At.blk rfl rfl rfl fun sx => ?_
  simp (decide := true) only [RR, ms_app, toList_some, toList_none, if_true, if_false, true_and, and_true, cond_true, sm0, sm1, sm1l, sm2, lc_lt, lc_gt, lc_eq, Int.toNat_natCast, Int.reduceToNat, Nat.reduceAdd, Nat.reduceEqDiff, Int.reduceLT, Int.reduceEq, Int.reduceNeg, Int.reduceAdd, Int.reduceMul, Nat.reduceMul, PX, fxX hF]
  have bad : (a < 0 ∨ σ 1 1 < a) → At 999 107 1 [some (.inr (.inr 0)), some (.inl a)] [] σ (fun r σ1 => ∃ v, r = some (.inl v) ∧ Mt 1000 154 [.inr (.inr 146), .inl a] σ1 (fun r2 σ2 => r2 = some (.inl v) ∧ Inv σ2)) := by
    intro h0
    refine At.blk rfl rfl rfl fun sx => ?_
    simp (decide := true) only [RR, ms_app, toList_some, toList_none, if_true, if_false, true_and, and_true, cond_true, sm0, sm1, sm1l, sm2, lc_lt, lc_gt, lc_eq, Int.toNat_natCast, Int.reduceToNat, Nat.reduceAdd, Nat.reduceEqDiff, Int.reduceLT, Int.reduceEq, Int.reduceNeg, Int.reduceAdd, Int.reduceMul, Nat.reduceMul, PX, fxX hF]
    refine cal_of rfl (x_deny (k := 0) hF (by decide) ?_)
    simp (decide := true) only [RR, ms_app, toList_some, toList_none, if_true, if_false, true_and, and_true, cond_true, sm0, sm1, sm1l, sm2, lc_lt, lc_gt, lc_eq, Int.toNat_natCast, Int.reduceToNat, Nat.reduceAdd, Nat.reduceEqDiff, Int.reduceLT, Int.reduceEq, Int.reduceNeg, Int.reduceAdd, Int.reduceMul, Nat.reduceMul, PX]
    refine ⟨0, rfl, ?_⟩
    refine Mt.go (lv := [some (.inr (.inr 146)), some (.inl a)]) rfl rfl rfl ?_
    refine At.blk rfl rfl rfl fun sx => ?_
    simp (decide := true) only [RR, ms_app, toList_some, toList_none, if_true, if_false, true_and, and_true, cond_true, sm0, sm1, sm1l, sm2, lc_lt, lc_gt, lc_eq, Int.toNat_natCast, Int.reduceToNat, Nat.reduceAdd, Nat.reduceEqDiff, Int.reduceLT, Int.reduceEq, Int.reduceNeg, Int.reduceAdd, Int.reduceMul, Nat.reduceMul, PM, fxM hF]
    have go : At 999 154 1 [some (.inr (.inr 146)), some (.inl a)] [] (mj_set σ 145 0 (w32 (σ 145 0 + 1))) (fun r2 σ2 => r2 = some (.inl 0) ∧ Inv σ2) := by
      refine At.blk rfl rfl rfl fun sx => ?_
      simp (decide := true) only [RR, ms_app, toList_some, toList_none, if_true, if_false, true_and, and_true, cond_true, sm0, sm1, sm1l, sm2, lc_lt, lc_gt, lc_eq, Int.toNat_natCast, Int.reduceToNat, Nat.reduceAdd, Nat.reduceEqDiff, Int.reduceLT, Int.reduceEq, Int.reduceNeg, Int.reduceAdd, Int.reduceMul, Nat.reduceMul, PM, fxM hF]
      exact h.ref (by decide)
    split
    · exact go
    · rw [if_pos (by omega)]; exact go
  split
  · rename_i h0; exact bad (Or.inl h0)
  · rename_i h0
    by_cases h1 : σ 1 1 < a
    · have go := bad (Or.inr h1)
      first | (rw [if_pos h1]; exact go) | (rw [if_neg (by omega)]; exact go)
    · first | rw [if_neg h1] | rw [if_pos (by omega)]
      refine At.blk rfl rfl rfl fun sx => ?_
      simp (decide := true) only [RR, ms_app, toList_some, toList_none, if_true, if_false, true_and, and_true, cond_true, sm0, sm1, sm1l, sm2, lc_lt, lc_gt, lc_eq, Int.toNat_natCast, Int.reduceToNat, Nat.reduceAdd, Nat.reduceEqDiff, Int.reduceLT, Int.reduceEq, Int.reduceNeg, Int.reduceAdd, Int.reduceMul, Nat.reduceMul, PX, fxX hF]
      refine ⟨1, rfl, ?_⟩
      refine Mt.go (lv := [some (.inr (.inr 146)), some (.inl a)]) rfl rfl rfl ?_
      refine At.blk rfl rfl rfl fun sx => ?_
      simp (decide := true) only [RR, ms_app, toList_some, toList_none, if_true, if_false, true_and, and_true, cond_true, sm0, sm1, sm1l, sm2, lc_lt, lc_gt, lc_eq, Int.toNat_natCast, Int.reduceToNat, Nat.reduceAdd, Nat.reduceEqDiff, Int.reduceLT, Int.reduceEq, Int.reduceNeg, Int.reduceAdd, Int.reduceMul, Nat.reduceMul, PM, fxM hF]
      rw [if_neg h0, if_neg (by omega)]
      refine At.blk rfl rfl rfl fun sx => ?_
      simp (decide := true) only [RR, ms_app, toList_some, toList_none, if_true, if_false, true_and, and_true, cond_true, sm0, sm1, sm1l, sm2, lc_lt, lc_gt, lc_eq, Int.toNat_natCast, Int.reduceToNat, Nat.reduceAdd, Nat.reduceEqDiff, Int.reduceLT, Int.reduceEq, Int.reduceNeg, Int.reduceAdd, Int.reduceMul, Nat.reduceMul, PM, fxM hF]
      obtain ⟨hF, hT, hR, hf, hZ, hP, hS, hC, hN, hk2, hU, hth⟩ := h
      refine ⟨(hF.set rfl).set rfl, ?_, hR.cg rfl rfl, hf.cg rfl rfl rfl rfl, hZ.cg rfl rfl, hP.cg rfl rfl rfl rfl, hS.cg rfl rfl rfl rfl rfl, hC.cg rfl rfl rfl rfl rfl rfl rfl rfl rfl rfl rfl rfl rfl, hN.cg rfl rfl rfl rfl rfl, hk2.cg rfl rfl rfl, hU.cg rfl rfl rfl rfl rfl rfl (fun q h1 h2 => by rw [ms_row (by omega), ms_row (by omega)]), hth⟩
      exact ⟨rfl, by show 0 ≤ a ∧ a ≤ 1600; omega, fun k hk => t3 k (by have hk : (k : Int) < a := hk; omega)⟩
