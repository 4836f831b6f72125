/-! undo -/
def goC (σ : mM) (y c : Nat) : mM := kepC (skyC (mj_set (mj_set σ 41 3 (c : Int)) 41 2 (y : Int)) 28 (44 + 5 * y)) 39 (47 + 5 * y)
def unP (σ : mM) (N m : Nat) : mM := fun q k => if q = 182 then (if k < m then σ 193 (150 * N + k) else σ q k) else σ q k
section
variable {d : Nat} {σ : mM} {K : Option mV → mM → Prop}
theorem unP_push {N m : Nat} : mj_set (unP σ N m) 182 m (σ 193 (150 * N + m)) = unP σ N (m + 1) := by
  funext q k
  unfold unP
  rw [ms_app]
  by_cases c1 : q = 182
  · subst c1
    rw [if_pos rfl, if_pos rfl, if_pos rfl]
    by_cases c2 : k = m
    · rw [if_pos c2, if_pos (by omega), c2]
    · rw [if_neg c2]
      by_cases c3 : k < m
      · rw [if_pos c3, if_pos (by omega)]
      · rw [if_neg c3, if_neg (by omega)]
  · rw [if_neg c1, if_neg c1, if_neg c1]
theorem unP0 {N : Nat} : unP σ N 0 = σ := by
  funext q k
  unfold unP
  by_cases c1 : q = 182
  · rw [if_pos c1, if_neg (by omega)]
  · rw [if_neg c1]
theorem fix_unP {N m : Nat} (hF : Fix σ) : Fix (unP σ N m) := by
  refine hF.row (fun q k hq hf => ?_)
  unfold unP
  by_cases c1 : q = 182
  · subst c1; rw [nofix (q := 182) rfl] at hf; cases hf
  · rw [if_neg c1]
theorem x_goBack {x c : Nat} (hF : Fix σ) (hx : σ 41 2 = (x : Int)) (hx2 : x < 20) (hc : σ 41 3 = (c : Int)) (hc2 : c ≤ 20) (h0 : c = 0 → K (some (.inl 0)) σ) (h1 : 0 < c → K (some (.inl 1)) (goC σ ((x + 19) % 20) (c - 1))) : Mt (d + 2) 10 [.inr (.inr 41), .inr (.inr 28), .inr (.inr 39)] σ K := by
  refine Mt.go (lv := [some (.inr (.inr 41)), some (.inr (.inr 28)), some (.inr (.inr 39))]) rfl rfl rfl ?_
  refine At.blk rfl rfl rfl fun sx => ?_
  simp (decide := true) only [RR, ms_app, toList_some, toList_none, if_true, if_false, true_and, and_true, cond_true, sm0, sm1, sm1l, sm2, lc_lt, lc_gt, lc_eq, Int.toNat_natCast, Int.reduceToNat, Nat.reduceAdd, Nat.reduceEqDiff, Int.reduceLT, Int.reduceEq, Int.reduceNeg, Int.reduceAdd, Int.reduceMul, Nat.reduceMul, ms_n, ms_i, ms_l, ms_p, PX, fxX hF, hc]
  by_cases hc0 : c = 0
  · rw [if_pos (by omega)]
    exact h0 hc0
  · rw [if_neg (by omega)]
    have w1 : (w32 (w32 ((x : Int) + 20) - 1)).tmod 20 = (((x + 19) % 20 : Nat) : Int) := by
      rw [w32_small (x := (x : Int) + 20) (by omega) (by omega), w32_small (by omega) (by omega), Int.tmod_eq_emod_of_nonneg (by omega)]; omega
    have w2 : w32 ((c : Int) - 1) = ((c - 1 : Nat) : Int) := by
      rw [w32_small (by omega) (by omega)]; omega
    have hK := h1 (by omega)
    unfold goC at hK
    have hy2 : (x + 19) % 20 < 20 := Nat.mod_lt _ (by decide)
    generalize (x + 19) % 20 = y at *
    obtain ⟨hs, hk⟩ := sky_all y hy2
    have hF1 : Fix (mj_set (mj_set σ 41 3 ((c - 1 : Nat) : Int)) 41 2 (y : Int)) := (hF.set rfl).set rfl
    obtain ⟨s1, s2, s3, s4, s5, s6, s7⟩ := skyB.get hs hF1
    have b1 : (0 ≤ (y : Int) ∧ (y : Int) < 20) = True := eq_true (by omega)
    refine At.blk rfl rfl rfl fun sx => ?_
    simp (decide := true) only [RR, ms_app, toList_some, toList_none, if_true, if_false, true_and, and_true, cond_true, sm0, sm1, sm1l, sm2, lc_lt, lc_gt, lc_eq, Int.toNat_natCast, Int.reduceToNat, Nat.reduceAdd, Nat.reduceEqDiff, Int.reduceLT, Int.reduceEq, Int.reduceNeg, Int.reduceAdd, Int.reduceMul, Nat.reduceMul, ms_n, ms_i, ms_l, ms_p, PX, fxX hF, hx, hc, w1, w2, (hF.sky hy2).1, s1, b1]
    refine cal_of rfl (x_skyCopy hF1 rfl hs (by omega) ?_)
    have hF2 := fix_skyC (s := 28) (o := 44 + 5 * y) hF1 rfl
    have r41 : skyC (mj_set (mj_set σ 41 3 ((c - 1 : Nat) : Int)) 41 2 (y : Int)) 28 (44 + 5 * y) 41 2 = (y : Int) := by rw [skyC_ne (by omega)]; rfl
    obtain ⟨k1, k2, k4, k6⟩ := kepB.get hk hF2
    simp (decide := true) only [RR, ms_app, toList_some, toList_none, if_true, if_false, true_and, and_true, cond_true, sm0, sm1, sm1l, sm2, lc_lt, lc_gt, lc_eq, Int.toNat_natCast, Int.reduceToNat, Nat.reduceAdd, Nat.reduceEqDiff, Int.reduceLT, Int.reduceEq, Int.reduceNeg, Int.reduceAdd, Int.reduceMul, Nat.reduceMul, ms_n, ms_i, ms_l, ms_p, PX, fxX hF2, r41, (hF2.sky hy2).2, k1, b1]
    refine cal_of rfl (x_kepCopy hF2 rfl hk (by omega) ?_)
    simp (decide := true) only [RR, ms_app, toList_some, toList_none, if_true, if_false, true_and, and_true, cond_true, sm0, sm1, sm1l, sm2, lc_lt, lc_gt, lc_eq, Int.toNat_natCast, Int.reduceToNat, Nat.reduceAdd, Nat.reduceEqDiff, Int.reduceLT, Int.reduceEq, Int.reduceNeg, Int.reduceAdd, Int.reduceMul, Nat.reduceMul, ms_n, ms_i, ms_l, ms_p, PX]
    exact hK
theorem m_undo {x c : Nat} (hF : Fix σ) (hx : σ 146 66 = (x : Int)) (hx2 : x < 20) (hc : σ 146 65 = (c : Int)) (hc2 : c ≤ 20) (h0 : c = 0 → K (some (.inl 0)) (mj_set σ 148 4 (w32 (σ 148 4 + 1)))) (h1 : 0 < c → K (some (.inl 1)) (mj_set (mj_set (unP σ x 150) 146 66 (((x + 19) % 20 : Nat) : Int)) 146 65 ((c - 1 : Nat) : Int))) : Mt (d + 1) 227 [.inr (.inr 146)] σ K := by
  refine Mt.go (lv := [some (.inr (.inr 146)), none]) rfl rfl rfl ?_
  refine At.blk rfl rfl rfl fun sx => ?_
  simp (decide := true) only [RR, ms_app, toList_some, toList_none, if_true, if_false, true_and, and_true, cond_true, sm0, sm1, sm1l, sm2, lc_lt, lc_gt, lc_eq, Int.toNat_natCast, Int.reduceToNat, Nat.reduceAdd, Nat.reduceEqDiff, Int.reduceLT, Int.reduceEq, Int.reduceNeg, Int.reduceAdd, Int.reduceMul, Nat.reduceMul, ms_n, ms_i, ms_l, ms_p, PM, fxM hF, hc]
  by_cases hc0 : c = 0
  · rw [if_pos (by omega)]
    exact h0 hc0
  · rw [if_neg (by omega)]
    have hK := h1 (by omega)
    refine At.blk rfl rfl rfl fun sx => ?_
    simp (decide := true) only [RR, ms_app, toList_some, toList_none, if_true, if_false, true_and, and_true, cond_true, sm0, sm1, sm1l, sm2, lc_lt, lc_gt, lc_eq, Int.toNat_natCast, Int.reduceToNat, Nat.reduceAdd, Nat.reduceEqDiff, Int.reduceLT, Int.reduceEq, Int.reduceNeg, Int.reduceAdd, Int.reduceMul, Nat.reduceMul, ms_n, ms_i, ms_l, ms_p, PM]
    have loop : ∀ m j : Nat, 150 - j = m → j ≤ 150 → At d 227 2 [some (.inr (.inr 146)), some (.inl (j : Int))] [] (unP σ x j) K := by
      intro m
      induction m with
      | zero =>
        intro j hj hj2
        obtain rfl : j = 150 := by omega
        have hFj := fix_unP (N := x) (m := 150) hF
        have e65 : unP σ x 150 146 65 = (c : Int) := hc
        have e66 : unP σ x 150 146 66 = (x : Int) := hx
        refine At.blk rfl rfl rfl fun sx => ?_
        simp (decide := true) only [RR, ms_app, toList_some, toList_none, if_true, if_false, true_and, and_true, cond_true, sm0, sm1, sm1l, sm2, lc_lt, lc_gt, lc_eq, Int.toNat_natCast, Int.reduceToNat, Nat.reduceAdd, Nat.reduceEqDiff, Int.reduceLT, Int.reduceEq, Int.reduceNeg, Int.reduceAdd, Int.reduceMul, Nat.reduceMul, ms_n, ms_i, ms_l, ms_p, PM, fxM hFj]
        refine At.blk rfl rfl rfl fun sx => ?_
        simp (decide := true) only [RR, ms_app, toList_some, toList_none, if_true, if_false, true_and, and_true, cond_true, sm0, sm1, sm1l, sm2, lc_lt, lc_gt, lc_eq, Int.toNat_natCast, Int.reduceToNat, Nat.reduceAdd, Nat.reduceEqDiff, Int.reduceLT, Int.reduceEq, Int.reduceNeg, Int.reduceAdd, Int.reduceMul, Nat.reduceMul, ms_n, ms_i, ms_l, ms_p, PM, fxM hFj, e65, e66]
        have w1 : (w32 (w32 ((x : Int) + 20) - 1)).tmod 20 = (((x + 19) % 20 : Nat) : Int) := by
          rw [w32_small (x := (x : Int) + 20) (by omega) (by omega), w32_small (by omega) (by omega), Int.tmod_eq_emod_of_nonneg (by omega)]; omega
        have w2 : w32 ((c : Int) - 1) = ((c - 1 : Nat) : Int) := by
          rw [w32_small (by omega) (by omega)]; omega
        rw [w1, w2]
        exact hK
      | succ m ih =>
        intro j hj hj2
        have hFj := fix_unP (N := x) (m := j) hF
        have e66 : unP σ x j 146 66 = (x : Int) := hx
        refine At.blk rfl rfl rfl fun sx => ?_
        simp (decide := true) only [RR, ms_app, toList_some, toList_none, if_true, if_false, true_and, and_true, cond_true, sm0, sm1, sm1l, sm2, lc_lt, lc_gt, lc_eq, Int.toNat_natCast, Int.reduceToNat, Nat.reduceAdd, Nat.reduceEqDiff, Int.reduceLT, Int.reduceEq, Int.reduceNeg, Int.reduceAdd, Int.reduceMul, Nat.reduceMul, ms_n, ms_i, ms_l, ms_p, PM, fxM hFj, e66]
        rw [if_pos (by omega), w32_small (x := 150 * (x : Int)) (by omega) (by omega), w32_small (x := 150 * (x : Int) + j) (by omega) (by omega), w32_small (x := (j : Int) + 1) (by omega) (by omega), show (150 * (x : Int) + j).toNat = 150 * x + j by omega]
        refine ⟨⟨by omega, by omega⟩, ⟨by omega, by omega⟩, ?_⟩
        have := ih (j + 1) (by omega) (by omega)
        rw [← unP_push] at this
        exact this
    have := loop 150 0 rfl (by omega)
    rw [unP0] at this
    exact this
end
theorem Inv.undo {σ : mM} {x c : Nat} (h : Inv σ) (hx : σ 146 66 = (x : Int)) (hx2 : x < 20) (hc : σ 41 3 = (c : Int)) (hc0 : 0 < c) : Inv (mj_set (mj_set (unP (goC σ ((x + 19) % 20) (c - 1)) x 150) 146 66 (((x + 19) % 20 : Nat) : Int)) 146 65 ((c - 1 : Nat) : Int)) := by
  obtain ⟨hF, hT, hR, hf, hZ, hP, hS, hC, hN, hk2, hU, hth⟩ := h
  obtain ⟨u1, u2, u3, u4, u5⟩ := hU
  have n7 : σ 3 4 ≤ 7 := hC.1.2.2
  have o0 := u5 0 (by omega)
  rw [hx] at o0
  have i1 : ((x : Int) - 1 - ((0 : Nat) : Int)) % 20 = (((x + 19) % 20 : Nat) : Int) := by omega
  have i2 : ((x : Int) - ((0 : Nat) : Int)) % 20 = (x : Int) := by omega
  rw [i1, i2, Int.toNat_natCast, Int.toNat_natCast] at o0
  have hy2 : (x + 19) % 20 < 20 := Nat.mod_lt _ (by decide)
  have hyx : ((x + 19) % 20 + 1) % 20 = x := by omega
  generalize (x + 19) % 20 = y at *
  have g : ∀ q, q < 28 ∨ 30 < q → q < 39 ∨ 40 < q → q ≠ 41 → goC σ y (c - 1) q = σ q := by
    intro q h1 h2 h3
    unfold goC
    rw [kepC_ne (by omega), skyC_ne (by omega), ms_row h3, ms_row h3]
  generalize hσ : mj_set (mj_set (unP (goC σ y (c - 1)) x 150) 146 66 (y : Int)) 146 65 ((c - 1 : Nat) : Int) = σ'
  have e : ∀ q, q < 28 ∨ 30 < q → q < 39 ∨ 40 < q → q ≠ 41 → q ≠ 146 → q ≠ 182 → σ' q = σ q := by
    intro q h1 h2 h3 h4 h5
    rw [← hσ, ms_row h4, ms_row h4, ← g q h1 h2 h3]
    funext k
    unfold unP
    rw [if_neg h5]
  have e2 : ∀ k, k ≠ 65 → k ≠ 66 → σ' 146 k = σ 146 k := by
    intro k h1 h2
    rw [← hσ, ms_app, if_pos rfl, if_neg h1, ms_app, if_pos rfl, if_neg h2]
    unfold unP
    rw [if_neg (by decide), g 146 (by decide) (by decide) (by decide)]
  have n34 : σ' 3 4 = σ 3 4 := by rw [e 3 (by decide) (by decide) (by decide) (by decide) (by decide)]
  have sk : ∀ q, 28 ≤ q → q ≤ 30 → σ' q = skyC (mj_set (mj_set σ 41 3 ((c - 1 : Nat) : Int)) 41 2 (y : Int)) 28 (44 + 5 * y) q := by
    intro q h1 h2
    rw [← hσ, ms_row (by omega), ms_row (by omega)]
    funext k
    unfold unP goC
    rw [if_neg (by omega), kepC_ne (by omega)]
  have kk : ∀ q, 39 ≤ q → q ≤ 40 → σ' q = kepC (skyC (mj_set (mj_set σ 41 3 ((c - 1 : Nat) : Int)) 41 2 (y : Int)) 28 (44 + 5 * y)) 39 (47 + 5 * y) q := by
    intro q h1 h2
    rw [← hσ, ms_row (by omega), ms_row (by omega)]
    funext k
    unfold unP goC
    rw [if_neg (by omega)]
  have s0 : ∀ q, q ≠ 41 → mj_set (mj_set σ 41 3 ((c - 1 : Nat) : Int)) 41 2 (y : Int) q = σ q := fun q hq => (ms_row hq).trans (ms_row hq)
  have m182 : ∀ k, k < 150 → σ' 182 (0 + k) = σ 193 (150 * x + k) := by
    intro k hk
    rw [← hσ, ms_row (by decide), ms_row (by decide)]
    unfold unP
    rw [if_pos rfl, if_pos (by omega), g 193 (by decide) (by decide) (by decide), Nat.zero_add]
  have e65 : σ' 146 65 = ((c - 1 : Nat) : Int) := by rw [← hσ]; rfl
  have e66 : σ' 146 66 = (y : Int) := by rw [← hσ]; rfl
  have e413 : σ' 41 3 = ((c - 1 : Nat) : Int) := by
    rw [← hσ, ms_row (by decide), ms_row (by decide)]
    unfold unP goC
    rw [if_neg (by decide), kepC_ne (by omega), skyC_ne (by omega)]; rfl
  have e412 : σ' 41 2 = (y : Int) := by
    rw [← hσ, ms_row (by decide), ms_row (by decide)]
    unfold unP goC
    rw [if_neg (by decide), kepC_ne (by omega), skyC_ne (by omega)]; rfl
  have hF' : Fix σ' := by
    rw [← hσ]
    obtain ⟨hs, hk⟩ := sky_all y hy2
    refine ((fix_unP ?_).set rfl).set rfl
    unfold goC
    exact fix_kepC (fix_skyC ((hF.set rfl).set rfl) rfl) rfl
  have q := fun q h1 h2 h3 h4 h5 => e q h1 h2 h3 h4 h5
  refine ⟨hF', hT.cg (e2 1 (by decide) (by decide)) (by rw [q 1 (by decide) (by decide) (by decide) (by decide) (by decide)]) (q 147 (by decide) (by decide) (by decide) (by decide) (by decide)) (q 2 (by decide) (by decide) (by decide) (by decide) (by decide)), hR.cg (q 148 (by decide) (by decide) (by decide) (by decide) (by decide)) (q 145 (by decide) (by decide) (by decide) (by decide) (by decide)), hf.cg (e2 7 (by decide) (by decide)) (by rw [q 19 (by decide) (by decide) (by decide) (by decide) (by decide)]) (e2 8 (by decide) (by decide)) (by rw [q 19 (by decide) (by decide) (by decide) (by decide) (by decide)]), hZ.cg (e2 67 (by decide) (by decide)) (by rw [q 0 (by decide) (by decide) (by decide) (by decide) (by decide)]), hP.cg (e2 99 (by decide) (by decide)) (by rw [q 0 (by decide) (by decide) (by decide) (by decide) (by decide)]) (q 217 (by decide) (by decide) (by decide) (by decide) (by decide)) (q 144 (by decide) (by decide) (by decide) (by decide) (by decide)), hS.cg (e2 58 (by decide) (by decide)) (by rw [q 31 (by decide) (by decide) (by decide) (by decide) (by decide)]) (q 189 (by decide) (by decide) (by decide) (by decide) (by decide)) (q 32 (by decide) (by decide) (by decide) (by decide) (by decide)) n34, ?_, ?_, ?_, ?_, (e2 53 (by decide) (by decide)).trans hth⟩
  · exact hC.cg (q 173 (by decide) (by decide) (by decide) (by decide) (by decide)) (q 3 (by decide) (by decide) (by decide) (by decide) (by decide)) (q 178 (by decide) (by decide) (by decide) (by decide) (by decide)) (q 4 (by decide) (by decide) (by decide) (by decide) (by decide)) (q 174 (by decide) (by decide) (by decide) (by decide) (by decide)) (q 176 (by decide) (by decide) (by decide) (by decide) (by decide)) (q 6 (by decide) (by decide) (by decide) (by decide) (by decide)) (q 9 (by decide) (by decide) (by decide) (by decide) (by decide)) (q 10 (by decide) (by decide) (by decide) (by decide) (by decide)) (q 8 (by decide) (by decide) (by decide) (by decide) (by decide)) (q 179 (by decide) (by decide) (by decide) (by decide) (by decide)) (q 180 (by decide) (by decide) (by decide) (by decide) (by decide)) (q 181 (by decide) (by decide) (by decide) (by decide) (by decide))
  · refine o0.1.mv n7 n34 ?_ ?_ ?_ (fun p hp => ?_) (fun p hp => ?_) (fun k hk => m182 k (by omega))
    · rw [sk 28 (by decide) (by decide)]; unfold skyC; rw [if_neg (by omega), if_neg (by omega), if_pos rfl, if_pos rfl, s0 _ (by omega)]
    · rw [sk 28 (by decide) (by decide)]; unfold skyC; rw [if_neg (by omega), if_neg (by omega), if_pos rfl, if_neg (by omega), if_pos rfl, s0 _ (by omega)]
    · rw [sk 28 (by decide) (by decide)]; unfold skyC; rw [if_neg (by omega), if_neg (by omega), if_pos rfl, if_neg (by omega), if_neg (by omega), if_pos rfl, s0 _ (by omega)]
    · rw [sk 29 (by decide) (by decide)]; unfold skyC; rw [if_pos rfl, if_pos hp, s0 _ (by omega)]
    · rw [sk 30 (by decide) (by decide)]; unfold skyC; rw [if_neg (by omega), if_pos rfl, if_pos hp, s0 _ (by omega)]
  · refine o0.2.mv ?_ (fun p hp => ?_) m182
    · rw [kk 39 (by decide) (by decide)]; unfold kepC; rw [if_neg (by omega), if_pos rfl, if_pos rfl, skyC_ne (by omega), s0 _ (by omega)]
    · rw [kk 40 (by decide) (by decide)]; unfold kepC; rw [if_pos rfl, if_pos hp, skyC_ne (by omega), s0 _ (by omega)]
  · refine ⟨by rw [e65, e413], by rw [e413]; omega, by rw [e66]; omega, by rw [e412, e66], fun j hj => ?_⟩
    rw [e413] at hj
    rw [e66]
    have old := u5 (j + 1) (by omega)
    rw [hx] at old
    have j1 : ((y : Int) - 1 - (j : Int)) % 20 = ((x : Int) - 1 - ((j + 1 : Nat) : Int)) % 20 := by omega
    have j2 : ((y : Int) - (j : Int)) % 20 = ((x : Int) - ((j + 1 : Nat) : Int)) % 20 := by omega
    rw [j1, j2]
    have a1 : (((x : Int) - 1 - ((j + 1 : Nat) : Int)) % 20).toNat < 20 := by omega
    generalize (((x : Int) - 1 - ((j + 1 : Nat) : Int)) % 20).toNat = A at *
    refine ⟨old.1.cg (q 193 (by decide) (by decide) (by decide) (by decide) (by decide)) (q _ (by omega) (by omega) (by omega) (by omega) (by omega)) (q _ (by omega) (by omega) (by omega) (by omega) (by omega)) (q _ (by omega) (by omega) (by omega) (by omega) (by omega)) n34, old.2.cg (q 193 (by decide) (by decide) (by decide) (by decide) (by decide)) (q _ (by omega) (by omega) (by omega) (by omega) (by omega)) (q _ (by omega) (by omega) (by omega) (by omega) (by omega))⟩
theorem p_undo {σ : mM} (h : Inv σ) : PairI Inv 131 227 [] σ := by
  have hF := h.1
  obtain ⟨x, c, x1, x2, c1, c2, x3, c3⟩ := h.ring
  refine Mt.go (lv := [some (.inr (.inr 0))]) rfl rfl rfl ?_
  refine At.blk rfl rfl rfl fun sx => ?_
  simp (decide := true) only [RR, ms_app, toList_some, toList_none, if_true, if_false, true_and, and_true, cond_true, sm0, sm1, sm1l, sm2, lc_lt, lc_gt, lc_eq, Int.toNat_natCast, Int.reduceToNat, Nat.reduceAdd, Nat.reduceEqDiff, Int.reduceLT, Int.reduceEq, Int.reduceNeg, Int.reduceAdd, Int.reduceMul, Nat.reduceMul, ms_n, ms_i, ms_l, ms_p, PX, fxX hF]
  refine cal_of rfl (x_goBack hF x3 x2 c3 c2 (fun hn => ?_) (fun hn => ?_))
  · simp (decide := true) only [RR, ms_app, toList_some, toList_none, if_true, if_false, true_and, and_true, cond_true, sm0, sm1, sm1l, sm2, lc_lt, lc_gt, lc_eq, Int.toNat_natCast, Int.reduceToNat, Nat.reduceAdd, Nat.reduceEqDiff, Int.reduceLT, Int.reduceEq, Int.reduceNeg, Int.reduceAdd, Int.reduceMul, Nat.reduceMul, ms_n, ms_i, ms_l, ms_p, PX]
    refine cal_of rfl (x_deny (k := 4) hF (by decide) ?_)
    simp (decide := true) only [RR, ms_app, toList_some, toList_none, if_true, if_false, true_and, and_true, cond_true, sm0, sm1, sm1l, sm2, lc_lt, lc_gt, lc_eq, Int.toNat_natCast, Int.reduceToNat, Nat.reduceAdd, Nat.reduceEqDiff, Int.reduceLT, Int.reduceEq, Int.reduceNeg, Int.reduceAdd, Int.reduceMul, Nat.reduceMul, ms_n, ms_i, ms_l, ms_p, PX]
    refine At.blk rfl rfl rfl fun sx => ?_
    simp (decide := true) only [RR, ms_app, toList_some, toList_none, if_true, if_false, true_and, and_true, cond_true, sm0, sm1, sm1l, sm2, lc_lt, lc_gt, lc_eq, Int.toNat_natCast, Int.reduceToNat, Nat.reduceAdd, Nat.reduceEqDiff, Int.reduceLT, Int.reduceEq, Int.reduceNeg, Int.reduceAdd, Int.reduceMul, Nat.reduceMul, ms_n, ms_i, ms_l, ms_p, PX]
    refine At.blk rfl rfl rfl fun sx => ?_
    simp (decide := true) only [RR, ms_app, toList_some, toList_none, if_true, if_false, true_and, and_true, cond_true, sm0, sm1, sm1l, sm2, lc_lt, lc_gt, lc_eq, Int.toNat_natCast, Int.reduceToNat, Nat.reduceAdd, Nat.reduceEqDiff, Int.reduceLT, Int.reduceEq, Int.reduceNeg, Int.reduceAdd, Int.reduceMul, Nat.reduceMul, ms_n, ms_i, ms_l, ms_p, PX]
    exact ⟨0, rfl, m_undo (hF.set rfl) x1 x2 c1 c2 (fun _ => ⟨rfl, h.ref (by decide)⟩) (fun hy => absurd hn (by omega))⟩
  · simp (decide := true) only [RR, ms_app, toList_some, toList_none, if_true, if_false, true_and, and_true, cond_true, sm0, sm1, sm1l, sm2, lc_lt, lc_gt, lc_eq, Int.toNat_natCast, Int.reduceToNat, Nat.reduceAdd, Nat.reduceEqDiff, Int.reduceLT, Int.reduceEq, Int.reduceNeg, Int.reduceAdd, Int.reduceMul, Nat.reduceMul, ms_n, ms_i, ms_l, ms_p, PX]
    refine At.blk rfl rfl rfl fun sx => ?_
    simp (decide := true) only [RR, ms_app, toList_some, toList_none, if_true, if_false, true_and, and_true, cond_true, sm0, sm1, sm1l, sm2, lc_lt, lc_gt, lc_eq, Int.toNat_natCast, Int.reduceToNat, Nat.reduceAdd, Nat.reduceEqDiff, Int.reduceLT, Int.reduceEq, Int.reduceNeg, Int.reduceAdd, Int.reduceMul, Nat.reduceMul, ms_n, ms_i, ms_l, ms_p, PX]
    refine At.blk rfl rfl rfl fun sx => ?_
    simp (decide := true) only [RR, ms_app, toList_some, toList_none, if_true, if_false, true_and, and_true, cond_true, sm0, sm1, sm1l, sm2, lc_lt, lc_gt, lc_eq, Int.toNat_natCast, Int.reduceToNat, Nat.reduceAdd, Nat.reduceEqDiff, Int.reduceLT, Int.reduceEq, Int.reduceNeg, Int.reduceAdd, Int.reduceMul, Nat.reduceMul, ms_n, ms_i, ms_l, ms_p, PX]
    have g : ∀ k, goC σ ((x + 19) % 20) (c - 1) 146 k = σ 146 k := by
      intro k
      unfold goC
      rw [kepC_ne (by omega), skyC_ne (by omega), ms_row (by decide), ms_row (by decide)]
    have hFg : Fix (goC σ ((x + 19) % 20) (c - 1)) := by
      unfold goC
      exact fix_kepC (fix_skyC ((hF.set rfl).set rfl) rfl) rfl
    exact ⟨1, rfl, m_undo hFg (by rw [g]; exact x1) x2 (by rw [g]; exact c1) c2 (fun hy => absurd hn (by omega)) (fun _ => ⟨rfl, h.undo x1 x2 c3 hn⟩)⟩
