/-! remember, keeps -/
theorem ms_self {σ : mM} {q k : Nat} : mj_set σ q k (σ q k) = σ := by
  funext q' k'
  rw [ms_app]
  by_cases e1 : q' = q
  · by_cases e2 : k' = k
    · rw [if_pos e1, if_pos e2, e1, e2]
    · rw [if_pos e1, if_neg e2]
  · rw [if_neg e1]
section
variable {d : Nat} {σ : mM} {K : Option mV → mM → Prop} {s o : Nat}
theorem x_imin {a b : Int} (h1 : a ≤ b → K (some (.inl a)) σ) (h2 : b < a → K (some (.inl b)) σ) : Mt (d + 1) 277 [.inl a, .inl b] σ K := by
  refine Mt.go (lv := [some (.inl a), some (.inl b)]) rfl rfl rfl ?_
  repeat' (first | (exact h1 (by omega)) | (exact h2 (by omega)) | (refine ⟨⟨by omega, by omega⟩, ?_⟩) | split | (refine At.blk rfl rfl rfl fun sx => ?_; simp (decide := true) only [RR, ms_app, toList_some, toList_none, if_true, if_false, true_and, and_true, cond_true, sm0, sm1, sm1l, sm2, lc_lt, lc_gt, lc_eq, Int.toNat_natCast, Int.reduceToNat, Nat.reduceAdd, Nat.reduceEqDiff, Int.reduceLT, Int.reduceEq, Int.reduceNeg, Int.reduceAdd, Int.reduceMul, Nat.reduceMul, ms_n, ms_i, ms_l, ms_p, PX]))
theorem x_imax {a b : Int} (h1 : b ≤ a → K (some (.inl a)) σ) (h2 : a < b → K (some (.inl b)) σ) : Mt (d + 1) 275 [.inl a, .inl b] σ K := by
  refine Mt.go (lv := [some (.inl a), some (.inl b)]) rfl rfl rfl ?_
  repeat' (first | (exact h1 (by omega)) | (exact h2 (by omega)) | (refine ⟨⟨by omega, by omega⟩, ?_⟩) | split | (refine At.blk rfl rfl rfl fun sx => ?_; simp (decide := true) only [RR, ms_app, toList_some, toList_none, if_true, if_false, true_and, and_true, cond_true, sm0, sm1, sm1l, sm2, lc_lt, lc_gt, lc_eq, Int.toNat_natCast, Int.reduceToNat, Nat.reduceAdd, Nat.reduceEqDiff, Int.reduceLT, Int.reduceEq, Int.reduceNeg, Int.reduceAdd, Int.reduceMul, Nat.reduceMul, ms_n, ms_i, ms_l, ms_p, PX]))
theorem x_lmin {a b : Int} (h1 : a ≤ b → K (some (.inr (.inl a))) σ) (h2 : b < a → K (some (.inr (.inl b))) σ) : Mt (d + 1) 278 [.inr (.inl a), .inr (.inl b)] σ K := by
  refine Mt.go (lv := [some (.inr (.inl a)), none, some (.inr (.inl b)), none]) rfl rfl rfl ?_
  repeat' (first | (exact h1 (by omega)) | (exact h2 (by omega)) | (refine ⟨⟨by omega, by omega⟩, ?_⟩) | split | (refine At.blk rfl rfl rfl fun sx => ?_; simp (decide := true) only [RR, ms_app, toList_some, toList_none, if_true, if_false, true_and, and_true, cond_true, sm0, sm1, sm1l, sm2, lc_lt, lc_gt, lc_eq, Int.toNat_natCast, Int.reduceToNat, Nat.reduceAdd, Nat.reduceEqDiff, Int.reduceLT, Int.reduceEq, Int.reduceNeg, Int.reduceAdd, Int.reduceMul, Nat.reduceMul, ms_n, ms_i, ms_l, ms_p, PX]))
theorem x_lmax {a b : Int} (h1 : b ≤ a → K (some (.inr (.inl a))) σ) (h2 : a < b → K (some (.inr (.inl b))) σ) : Mt (d + 1) 276 [.inr (.inl a), .inr (.inl b)] σ K := by
  refine Mt.go (lv := [some (.inr (.inl a)), none, some (.inr (.inl b)), none]) rfl rfl rfl ?_
  repeat' (first | (exact h1 (by omega)) | (exact h2 (by omega)) | (refine ⟨⟨by omega, by omega⟩, ?_⟩) | split | (refine At.blk rfl rfl rfl fun sx => ?_; simp (decide := true) only [RR, ms_app, toList_some, toList_none, if_true, if_false, true_and, and_true, cond_true, sm0, sm1, sm1l, sm2, lc_lt, lc_gt, lc_eq, Int.toNat_natCast, Int.reduceToNat, Nat.reduceAdd, Nat.reduceEqDiff, Int.reduceLT, Int.reduceEq, Int.reduceNeg, Int.reduceAdd, Int.reduceMul, Nat.reduceMul, ms_n, ms_i, ms_l, ms_p, PX]))
theorem skyC_ne {q : Nat} (h : q < s ∨ s + 2 < q) : skyC σ s o q = σ q := by
  funext k
  unfold skyC
  rw [if_neg (by omega), if_neg (by omega), if_neg (by omega)]
theorem kepC_ne {q : Nat} (h : q < s ∨ s + 1 < q) : kepC σ s o q = σ q := by
  funext k
  unfold kepC
  rw [if_neg (by omega), if_neg (by omega)]
theorem is_kind {q kd : Nat} (h : mj_is 218 q kd = true) : (mj_shp q).1 = kd := by
  unfold mj_is at h
  exact Nat.eq_of_beq_eq_true (mj_and h).2
theorem nofix20 {q k : Nat} (h : mj_is 218 q 20 = true) : fixS q k = false := by
  refine nofix ?_
  unfold nofB
  rw [is_kind h]; rfl
theorem fix_skyC (hF : Fix σ) (hs : skyB s = true) : Fix (skyC σ s o) := by
  obtain ⟨s1, s2, s3, s4, s5, s6, s7⟩ := skyB.get hs hF
  refine hF.row (fun q k hq hf => ?_)
  unfold skyC
  by_cases c1 : q = s + 1
  · subst c1; rw [nofix20 s2] at hf; cases hf
  · rw [if_neg c1]
    by_cases c2 : q = s + 2
    · subst c2; rw [nofix20 s3] at hf; cases hf
    · rw [if_neg c2]
      by_cases c3 : q = s
      · subst c3
        rw [if_pos rfl]
        unfold fixS at hf
        rw [is_kind s1] at hf
        have n2 : k ≠ 2 := by intro e; subst e; exact absurd hf (by decide)
        have n3 : k ≠ 3 := by intro e; subst e; exact absurd hf (by decide)
        have n4 : k ≠ 4 := by intro e; subst e; exact absurd hf (by decide)
        rw [if_neg n2, if_neg n3, if_neg n4]
      · rw [if_neg c3]
theorem fix_kepC (hF : Fix σ) (hs : kepB s = true) : Fix (kepC σ s o) := by
  obtain ⟨s1, s2, s4, s6⟩ := kepB.get hs hF
  refine hF.row (fun q k hq hf => ?_)
  unfold kepC
  by_cases c1 : q = s + 1
  · subst c1; rw [nofix20 s2] at hf; cases hf
  · rw [if_neg c1]
    by_cases c3 : q = s
    · subst c3
      rw [if_pos rfl]
      unfold fixS at hf
      rw [is_kind s1] at hf
      have n1 : k ≠ 1 := by intro e; subst e; exact absurd hf (by decide)
      rw [if_neg n1]
    · rw [if_neg c3]
/-- memory when the class has remembered -/
def remC (σ : mM) (x c : Nat) : mM := mj_set (mj_set (kepC (skyC σ (44 + 5 * x) 28) (47 + 5 * x) 39) 41 2 (((x + 1) % 20 : Nat) : Int)) 41 3 ((min (c + 1) 20 : Nat) : Int)
theorem x_remember {x c : Nat} (hF : Fix σ) (hx : σ 41 2 = (x : Int)) (hx2 : x < 20) (hc : σ 41 3 = (c : Int)) (hc2 : c ≤ 20) (hK : K none (remC σ x c)) : Mt (d + 2) 9 [.inr (.inr 41), .inr (.inr 28), .inr (.inr 39)] σ K := by
  refine Mt.go (lv := [some (.inr (.inr 41)), some (.inr (.inr 28)), some (.inr (.inr 39))]) rfl rfl rfl ?_
  obtain ⟨hs, hk⟩ := sky_all x hx2
  obtain ⟨s1, s2, s3, s4, s5, s6, s7⟩ := skyB.get hs hF
  obtain ⟨k1, k2, k4, k6⟩ := kepB.get hk hF
  have b1 : (0 ≤ (x : Int) ∧ (x : Int) < 20) = True := eq_true (by omega)
  refine At.blk rfl rfl rfl fun sx => ?_
  simp (decide := true) only [RR, ms_app, toList_some, toList_none, if_true, if_false, true_and, and_true, cond_true, sm0, sm1, sm1l, sm2, lc_lt, lc_gt, lc_eq, Int.toNat_natCast, Int.reduceToNat, Nat.reduceAdd, Nat.reduceEqDiff, Int.reduceLT, Int.reduceEq, Int.reduceNeg, Int.reduceAdd, Int.reduceMul, Nat.reduceMul, ms_n, ms_i, ms_l, ms_p, PX, fxX hF, hx, (hF.sky hx2).1, s1, b1]
  refine cal_of rfl (x_skyCopy hF hs rfl (by omega) ?_)
  have hF1 := fix_skyC (o := 28) hF hs
  have r41 : skyC σ (44 + 5 * x) 28 41 = σ 41 := skyC_ne (by omega)
  have hx1 : skyC σ (44 + 5 * x) 28 41 2 = (x : Int) := by rw [r41, hx]
  simp (decide := true) only [RR, ms_app, toList_some, toList_none, if_true, if_false, true_and, and_true, cond_true, sm0, sm1, sm1l, sm2, lc_lt, lc_gt, lc_eq, Int.toNat_natCast, Int.reduceToNat, Nat.reduceAdd, Nat.reduceEqDiff, Int.reduceLT, Int.reduceEq, Int.reduceNeg, Int.reduceAdd, Int.reduceMul, Nat.reduceMul, ms_n, ms_i, ms_l, ms_p, PX, fxX hF1, hx1, (hF1.sky hx2).2, k1, b1]
  refine cal_of rfl (x_kepCopy hF1 hk rfl (by omega) ?_)
  have hF2 := fix_kepC (o := 39) hF1 hk
  have r41' : kepC (skyC σ (44 + 5 * x) 28) (47 + 5 * x) 39 41 = σ 41 := (kepC_ne (by omega)).trans r41
  have hx3 : kepC (skyC σ (44 + 5 * x) 28) (47 + 5 * x) 39 41 2 = (x : Int) := by rw [r41', hx]
  have hc3 : kepC (skyC σ (44 + 5 * x) 28) (47 + 5 * x) 39 41 3 = (c : Int) := by rw [r41', hc]
  simp (decide := true) only [RR, ms_app, toList_some, toList_none, if_true, if_false, true_and, and_true, cond_true, sm0, sm1, sm1l, sm2, lc_lt, lc_gt, lc_eq, Int.toNat_natCast, Int.reduceToNat, Nat.reduceAdd, Nat.reduceEqDiff, Int.reduceLT, Int.reduceEq, Int.reduceNeg, Int.reduceAdd, Int.reduceMul, Nat.reduceMul, ms_n, ms_i, ms_l, ms_p, PX, fxX hF2, hx3, hc3]
  have w1 : (w32 ((x : Int) + 1)).tmod 20 = (((x + 1) % 20 : Nat) : Int) := by
    rw [w32_small (by omega) (by omega), Int.tmod_eq_emod_of_nonneg (by omega)]; omega
  rw [w1, w32_small (by omega) (by omega)]
  unfold remC at hK
  refine cal_of rfl (x_imin (fun hh => ?_) (fun hh => ?_))
  · simp (decide := true) only [RR, ms_app, toList_some, toList_none, if_true, if_false, true_and, and_true, cond_true, sm0, sm1, sm1l, sm2, lc_lt, lc_gt, lc_eq, Int.toNat_natCast, Int.reduceToNat, Nat.reduceAdd, Nat.reduceEqDiff, Int.reduceLT, Int.reduceEq, Int.reduceNeg, Int.reduceAdd, Int.reduceMul, Nat.reduceMul, ms_n, ms_i, ms_l, ms_p, PX]
    rw [show min (c + 1) 20 = c + 1 by omega] at hK
    exact hK
  · simp (decide := true) only [RR, ms_app, toList_some, toList_none, if_true, if_false, true_and, and_true, cond_true, sm0, sm1, sm1l, sm2, lc_lt, lc_gt, lc_eq, Int.toNat_natCast, Int.reduceToNat, Nat.reduceAdd, Nat.reduceEqDiff, Int.reduceLT, Int.reduceEq, Int.reduceNeg, Int.reduceAdd, Int.reduceMul, Nat.reduceMul, ms_n, ms_i, ms_l, ms_p, PX]
    rw [show min (c + 1) 20 = 20 by omega] at hK
    exact hK
/-- memory when the model keeps: m numbers of it -/
def keepP (σ : mM) (N m : Nat) : mM := fun q k => if q = 193 then (if 150 * N ≤ k ∧ k < 150 * N + m then σ 182 (k - 150 * N) else σ q k) else if q = 146 then (if k = 66 then (N : Int) else σ q k) else σ q k
theorem keepP_push {N m : Nat} : mj_set (keepP σ N m) 193 (150 * N + m) (σ 182 m) = keepP σ N (m + 1) := by
  funext q k
  unfold keepP
  rw [ms_app]
  by_cases c1 : q = 193
  · subst c1
    rw [if_pos rfl, if_pos rfl, if_pos rfl]
    by_cases c2 : k = 150 * N + m
    · rw [if_pos c2, if_pos (by omega), c2, Nat.add_sub_cancel_left]
    · rw [if_neg c2]
      by_cases c3 : 150 * N ≤ k ∧ k < 150 * N + m
      · rw [if_pos c3, if_pos (by omega)]
      · rw [if_neg c3, if_neg (by omega)]
  · rw [if_neg c1, if_neg c1, if_neg c1]
theorem keepP0 {N : Nat} : keepP σ N 0 = mj_set σ 146 66 (N : Int) := by
  funext q k
  unfold keepP
  rw [ms_app]
  by_cases c1 : q = 193
  · subst c1
    rw [if_pos rfl, if_neg (by omega), if_neg (by omega)]
  · rw [if_neg c1]
theorem fix_keepP {N m : Nat} (hF : Fix σ) : Fix (keepP σ N m) := by
  refine hF.row (fun q k hq hf => ?_)
  unfold keepP
  by_cases c1 : q = 193
  · subst c1; rw [nofix (q := 193) rfl] at hf; cases hf
  · rw [if_neg c1]
    by_cases c2 : q = 146
    · subst c2
      rw [if_pos rfl]
      have n2 : k ≠ 66 := by intro e; subst e; exact absurd hf (by decide)
      rw [if_neg n2]
    · rw [if_neg c2]
def keepM (σ : mM) (x c : Nat) : mM := mj_set (keepP σ ((x + 1) % 20) 150) 146 65 ((min (c + 1) 20 : Nat) : Int)
theorem m_keeps {x c : Nat} (hF : Fix σ) (hx : σ 146 66 = (x : Int)) (hx2 : x < 20) (hc : σ 146 65 = (c : Int)) (hc2 : c ≤ 20) (hK : K none (keepM σ x c)) : Mt (d + 1) 226 [.inr (.inr 146)] σ K := by
  refine Mt.go (lv := [some (.inr (.inr 146)), none]) rfl rfl rfl ?_
  have w1 : (w32 ((x : Int) + 1)).tmod 20 = (((x + 1) % 20 : Nat) : Int) := by
    rw [w32_small (by omega) (by omega), Int.tmod_eq_emod_of_nonneg (by omega)]; omega
  have hN : (x + 1) % 20 < 20 := Nat.mod_lt _ (by decide)
  unfold keepM at hK
  generalize (x + 1) % 20 = N at *
  refine At.blk rfl rfl rfl fun sx => ?_
  simp (decide := true) only [RR, ms_app, toList_some, toList_none, if_true, if_false, true_and, and_true, cond_true, sm0, sm1, sm1l, sm2, lc_lt, lc_gt, lc_eq, Int.toNat_natCast, Int.reduceToNat, Nat.reduceAdd, Nat.reduceEqDiff, Int.reduceLT, Int.reduceEq, Int.reduceNeg, Int.reduceAdd, Int.reduceMul, Nat.reduceMul, ms_n, ms_i, ms_l, ms_p, PM, fxM hF, hx, w1]
  rw [← keepP0]
  have loop : ∀ m j : Nat, 150 - j = m → j ≤ 150 → At d 226 1 [some (.inr (.inr 146)), some (.inl (j : Int))] [] (keepP σ N j) K := by
    intro m
    induction m with
    | zero =>
      intro j hj hj2
      obtain rfl : j = 150 := by omega
      have hFj := fix_keepP (N := N) (m := 150) hF
      have e65 : keepP σ N 150 146 65 = (c : Int) := hc
      refine At.blk rfl rfl rfl fun sx => ?_
      simp (decide := true) only [RR, ms_app, toList_some, toList_none, if_true, if_false, true_and, and_true, cond_true, sm0, sm1, sm1l, sm2, lc_lt, lc_gt, lc_eq, Int.toNat_natCast, Int.reduceToNat, Nat.reduceAdd, Nat.reduceEqDiff, Int.reduceLT, Int.reduceEq, Int.reduceNeg, Int.reduceAdd, Int.reduceMul, Nat.reduceMul, ms_n, ms_i, ms_l, ms_p, PM, fxM hFj]
      refine At.blk rfl rfl rfl fun sx => ?_
      simp (decide := true) only [RR, ms_app, toList_some, toList_none, if_true, if_false, true_and, and_true, cond_true, sm0, sm1, sm1l, sm2, lc_lt, lc_gt, lc_eq, Int.toNat_natCast, Int.reduceToNat, Nat.reduceAdd, Nat.reduceEqDiff, Int.reduceLT, Int.reduceEq, Int.reduceNeg, Int.reduceAdd, Int.reduceMul, Nat.reduceMul, ms_n, ms_i, ms_l, ms_p, PM, fxM hFj, e65]
      by_cases hh : c < 20
      · rw [if_pos (by omega), w32_small (by omega) (by omega)]
        rw [show min (c + 1) 20 = c + 1 by omega] at hK
        refine At.blk rfl rfl rfl fun sx => ?_
        simp (decide := true) only [RR, ms_app, toList_some, toList_none, if_true, if_false, true_and, and_true, cond_true, sm0, sm1, sm1l, sm2, lc_lt, lc_gt, lc_eq, Int.toNat_natCast, Int.reduceToNat, Nat.reduceAdd, Nat.reduceEqDiff, Int.reduceLT, Int.reduceEq, Int.reduceNeg, Int.reduceAdd, Int.reduceMul, Nat.reduceMul, ms_n, ms_i, ms_l, ms_p, PM]
        exact hK
      · rw [if_neg (by omega)]
        rw [show ((min (c + 1) 20 : Nat) : Int) = keepP σ N 150 146 65 by rw [e65]; omega, ms_self] at hK
        refine At.blk rfl rfl rfl fun sx => ?_
        simp (decide := true) only [RR, ms_app, toList_some, toList_none, if_true, if_false, true_and, and_true, cond_true, sm0, sm1, sm1l, sm2, lc_lt, lc_gt, lc_eq, Int.toNat_natCast, Int.reduceToNat, Nat.reduceAdd, Nat.reduceEqDiff, Int.reduceLT, Int.reduceEq, Int.reduceNeg, Int.reduceAdd, Int.reduceMul, Nat.reduceMul, ms_n, ms_i, ms_l, ms_p, PM]
        exact hK
    | succ m ih =>
      intro j hj hj2
      have hFj := fix_keepP (N := N) (m := j) hF
      have e66 : keepP σ N j 146 66 = (N : Int) := rfl
      refine At.blk rfl rfl rfl fun sx => ?_
      simp (decide := true) only [RR, ms_app, toList_some, toList_none, if_true, if_false, true_and, and_true, cond_true, sm0, sm1, sm1l, sm2, lc_lt, lc_gt, lc_eq, Int.toNat_natCast, Int.reduceToNat, Nat.reduceAdd, Nat.reduceEqDiff, Int.reduceLT, Int.reduceEq, Int.reduceNeg, Int.reduceAdd, Int.reduceMul, Nat.reduceMul, ms_n, ms_i, ms_l, ms_p, PM, fxM hFj, e66]
      rw [if_pos (by omega), w32_small (x := 150 * (N : Int)) (by omega) (by omega), w32_small (x := 150 * (N : Int) + j) (by omega) (by omega), w32_small (x := (j : Int) + 1) (by omega) (by omega), show (150 * (N : Int) + j).toNat = 150 * N + j by omega]
      refine ⟨⟨by omega, by omega⟩, ⟨by omega, by omega⟩, ?_⟩
      have := ih (j + 1) (by omega) (by omega)
      rw [← keepP_push] at this
      exact this
  exact loop 150 0 rfl (by omega)
end
