section
variable {d : Nat} {σ : mM} {K : Option mV → mM → Prop}
theorem x_canCome {n L : Int} (hF : Fix σ) (hn : 0 ≤ σ 28 2 ∧ σ 28 2 ≤ 999) (hL : L ≤ 100) (h1 : 1 ≤ n ∧ n ≤ L ∧ σ 28 2 + n ≤ 999 → K (some (.inl 1)) σ) (h0 : ¬(1 ≤ n ∧ n ≤ L ∧ σ 28 2 + n ≤ 999) → K (some (.inl 0)) σ) : Mt (d + 1) 16 [.inr (.inr 33), .inl n, .inl L] σ K := by
  refine Mt.go (lv := [some (.inr (.inr 33)), some (.inl n), some (.inl L)]) rfl rfl rfl ?_
  have no : ¬(1 ≤ n ∧ n ≤ L ∧ σ 28 2 + n ≤ 999) → At d 16 1 [some (.inr (.inr 33)), some (.inl n), some (.inl L)] [] σ K := by
    intro h
    refine At.blk rfl rfl rfl fun sx => ?_
    simp (decide := true) only [RR, ms_app, toList_some, toList_none, if_true, if_false, true_and, and_true, cond_true, sm0, sm1, sm1l, sm2, lc_lt, lc_gt, lc_eq, Int.toNat_natCast, Int.reduceToNat, Nat.reduceAdd, Nat.reduceEqDiff, Int.reduceLT, Int.reduceEq, Int.reduceNeg, Int.reduceAdd, Int.reduceMul, Nat.reduceMul, ms_n, ms_i, ms_l, ms_p, PX]
    refine At.blk rfl rfl rfl fun sx => ?_
    simp (decide := true) only [RR, ms_app, toList_some, toList_none, if_true, if_false, true_and, and_true, cond_true, sm0, sm1, sm1l, sm2, lc_lt, lc_gt, lc_eq, Int.toNat_natCast, Int.reduceToNat, Nat.reduceAdd, Nat.reduceEqDiff, Int.reduceLT, Int.reduceEq, Int.reduceNeg, Int.reduceAdd, Int.reduceMul, Nat.reduceMul, ms_n, ms_i, ms_l, ms_p, PX]
    exact h0 h
  refine At.blk rfl rfl rfl fun sx => ?_
  simp (decide := true) only [RR, ms_app, toList_some, toList_none, if_true, if_false, true_and, and_true, cond_true, sm0, sm1, sm1l, sm2, lc_lt, lc_gt, lc_eq, Int.toNat_natCast, Int.reduceToNat, Nat.reduceAdd, Nat.reduceEqDiff, Int.reduceLT, Int.reduceEq, Int.reduceNeg, Int.reduceAdd, Int.reduceMul, Nat.reduceMul, ms_n, ms_i, ms_l, ms_p, PX, fxX hF]
  by_cases a1 : n < 1
  · rw [if_pos a1]; exact no (by omega)
  · rw [if_neg a1]
    by_cases a2 : L < n
    · rw [if_pos a2]; exact no (by omega)
    · rw [if_neg a2, w32_small (by omega) (by omega)]
      by_cases a3 : 999 < σ 28 2 + n
      · rw [if_pos a3]; exact no (by omega)
      · rw [if_neg a3]
        refine At.blk rfl rfl rfl fun sx => ?_
        simp (decide := true) only [RR, ms_app, toList_some, toList_none, if_true, if_false, true_and, and_true, cond_true, sm0, sm1, sm1l, sm2, lc_lt, lc_gt, lc_eq, Int.toNat_natCast, Int.reduceToNat, Nat.reduceAdd, Nat.reduceEqDiff, Int.reduceLT, Int.reduceEq, Int.reduceNeg, Int.reduceAdd, Int.reduceMul, Nat.reduceMul, ms_n, ms_i, ms_l, ms_p, PX]
        exact h1 (by omega)
theorem m_isAhead {n a b : Int} (hF : Fix σ) (hn : 0 ≤ σ 182 0 ∧ σ 182 0 ≤ 1100) (ha : 0 ≤ a) (hb : b ≤ 100) (h1 : a ≤ n ∧ n ≤ b ∧ σ 182 0 + n ≤ 999 → K (some (.inl 1)) σ) (h0 : ¬(a ≤ n ∧ n ≤ b ∧ σ 182 0 + n ≤ 999) → K (some (.inl 0)) σ) : Mt (d + 2) 200 [.inr (.inr 146), .inl n, .inl a, .inl b] σ K := by
  refine Mt.go (lv := [some (.inr (.inr 146)), some (.inl n), some (.inl a), some (.inl b)]) rfl rfl rfl ?_
  have no : ¬(a ≤ n ∧ n ≤ b ∧ σ 182 0 + n ≤ 999) → At (d + 1) 200 1 [some (.inr (.inr 146)), some (.inl n), some (.inl a), some (.inl b)] [] σ K := by
    intro h
    refine At.blk rfl rfl rfl fun sx => ?_
    simp (decide := true) only [RR, ms_app, toList_some, toList_none, if_true, if_false, true_and, and_true, cond_true, sm0, sm1, sm1l, sm2, lc_lt, lc_gt, lc_eq, Int.toNat_natCast, Int.reduceToNat, Nat.reduceAdd, Nat.reduceEqDiff, Int.reduceLT, Int.reduceEq, Int.reduceNeg, Int.reduceAdd, Int.reduceMul, Nat.reduceMul, ms_n, ms_i, ms_l, ms_p, PM]
    refine At.blk rfl rfl rfl fun sx => ?_
    simp (decide := true) only [RR, ms_app, toList_some, toList_none, if_true, if_false, true_and, and_true, cond_true, sm0, sm1, sm1l, sm2, lc_lt, lc_gt, lc_eq, Int.toNat_natCast, Int.reduceToNat, Nat.reduceAdd, Nat.reduceEqDiff, Int.reduceLT, Int.reduceEq, Int.reduceNeg, Int.reduceAdd, Int.reduceMul, Nat.reduceMul, ms_n, ms_i, ms_l, ms_p, PM]
    exact h0 h
  refine At.blk rfl rfl rfl fun sx => ?_
  simp (decide := true) only [RR, ms_app, toList_some, toList_none, if_true, if_false, true_and, and_true, cond_true, sm0, sm1, sm1l, sm2, lc_lt, lc_gt, lc_eq, Int.toNat_natCast, Int.reduceToNat, Nat.reduceAdd, Nat.reduceEqDiff, Int.reduceLT, Int.reduceEq, Int.reduceNeg, Int.reduceAdd, Int.reduceMul, Nat.reduceMul, ms_n, ms_i, ms_l, ms_p, PM]
  refine cal_of rfl (m_isIn ?_)
  simp (decide := true) only [RR, ms_app, toList_some, toList_none, if_true, if_false, true_and, and_true, cond_true, sm0, sm1, sm1l, sm2, lc_lt, lc_gt, lc_eq, Int.toNat_natCast, Int.reduceToNat, Nat.reduceAdd, Nat.reduceEqDiff, Int.reduceLT, Int.reduceEq, Int.reduceNeg, Int.reduceAdd, Int.reduceMul, Nat.reduceMul, ms_n, ms_i, ms_l, ms_p, PM, fxM hF]
  by_cases a1 : a ≤ n ∧ n ≤ b
  · rw [if_pos a1, if_neg (by decide), w32_small (by omega) (by omega)]
    by_cases a3 : 999 < σ 182 0 + n
    · rw [if_pos a3]; exact no (by omega)
    · rw [if_neg a3]
      refine At.blk rfl rfl rfl fun sx => ?_
      simp (decide := true) only [RR, ms_app, toList_some, toList_none, if_true, if_false, true_and, and_true, cond_true, sm0, sm1, sm1l, sm2, lc_lt, lc_gt, lc_eq, Int.toNat_natCast, Int.reduceToNat, Nat.reduceAdd, Nat.reduceEqDiff, Int.reduceLT, Int.reduceEq, Int.reduceNeg, Int.reduceAdd, Int.reduceMul, Nat.reduceMul, ms_n, ms_i, ms_l, ms_p, PM]
      exact h1 (by omega)
  · rw [if_neg a1, if_pos rfl]; exact no (by omega)
end
def nxL : List Nat := [29, 30, 40, 182] ++ scrL
def nxT : List (Nat × Nat) := [(28, 2), (39, 1), (0, 13), (146, 67)] ++ scrT
theorem Inv.nx {σ σ1 : mM} (h : Inv σ) (f : Fr nxL nxT σ σ1) (hZ : IvZ σ1) (hN : SkyR σ1 28 182 0) (hk : KeptR σ1 39 182 0) : Inv σ1 := by
  obtain ⟨hF, hT, hR, hf, -, hP, hS, hC, -, -, hU, hth⟩ := h
  refine ⟨hF.fr f rfl, hT.cg (f 146 1 rfl) (f 1 1 rfl) (f.row 147 rfl) (f.row 2 rfl), hR.cg (f.row 148 rfl) (f.row 145 rfl), hf.cg (f 146 7 rfl) (f 19 2 rfl) (f 146 8 rfl) (f 19 3 rfl), hZ, hP.cg (f 146 99 rfl) (f 0 12 rfl) (f.row 217 rfl) (f.row 144 rfl), hS.cg (f 146 58 rfl) (f 31 1 rfl) (f.row 189 rfl) (f.row 32 rfl) (f 3 4 rfl), hC.cg (f.row 173 rfl) (f.row 3 rfl) (f.row 178 rfl) (f.row 4 rfl) (f.row 174 rfl) (f.row 176 rfl) (f.row 6 rfl) (f.row 9 rfl) (f.row 10 rfl) (f.row 8 rfl) (f.row 179 rfl) (f.row 180 rfl) (f.row 181 rfl), hN, hk, hU.cg (f 146 65 rfl) (f 41 3 rfl) (f 146 66 rfl) (f 41 2 rfl) (f 3 4 rfl) (f.row 193 rfl) (fun q h1 h2 => f.hist rfl rfl h1 h2), by rw [f 146 53 rfl]; exact hth⟩
theorem keepM_fr {L : List Nat} {T : List (Nat × Nat)} {σ1 σ2 : mM} {x c : Nat} (f : Fr L T σ1 σ2) (h : σ2 182 = σ1 182) : Fr L T (keepM σ1 x c) (keepM σ2 x c) := by
  intro q k hn
  unfold keepM
  rw [ms_app, ms_app]
  unfold keepP
  rw [h, f q k hn]
theorem kpA_V {C : Ct} {w : Sk} {l : Kp} (hC : CtV C) (h0 : 0 ≤ w.1) (hl : KpV l) : ∀ k : Nat, w.1 + k ≤ 1000 → KpV (kpA C w l k)
  | 0, _ => hl
  | k + 1, h => kpN_V hC (by rw [ntM_night]; omega) (kpA_V hC h0 hl k (by omega)) C.1 (Nat.le_refl _)
theorem KpX.cg {σ σ' : mM} {l : Kp} (h : KpX σ l) (e1 : σ' 39 1 = σ 39 1) (e2 : σ' 40 = σ 40) : KpX σ' l := by
  unfold KpX at *; rw [e1, e2]; exact h
theorem KpM.cg {σ σ' : mM} {l : Kp} (h : KpM σ l) (e : σ' 182 = σ 182) : KpM σ' l := by
  unfold KpM at *; rw [e]; exact h
theorem p_nights {σ : mM} (h : Inv σ) (a : Int) (_ : inR a) : PairI Inv 129 233 [.inl a] σ := by
  have hF := h.1
  obtain ⟨C, w, l, hC, hcx, hcm, hw, hsx, hsm, hkx, hkm, hkv, h9⟩ := h.wrl
  obtain ⟨x, c, r1, r2, r3, r4, r5, r6⟩ := h.ring
  have en : σ 28 2 = w.1 := hsx.1
  have em : σ 182 0 = w.1 := hsm.1
  refine Mt.go (lv := [some (.inr (.inr 0)), some (.inl a), none, none]) rfl rfl rfl ?_
  refine At.blk rfl rfl rfl fun sx => ?_
  simp (decide := true) only [RR, ms_app, toList_some, toList_none, if_true, if_false, true_and, and_true, cond_true, sm0, sm1, sm1l, sm2, lc_lt, lc_gt, lc_eq, Int.toNat_natCast, Int.reduceToNat, Nat.reduceAdd, Nat.reduceEqDiff, Int.reduceLT, Int.reduceEq, Int.reduceNeg, Int.reduceAdd, Int.reduceMul, Nat.reduceMul, ms_n, ms_i, ms_l, ms_p, PX, fxX hF]
  refine cal_of rfl (x_canCome hF (by omega) (by decide) (fun hh => ?_) (fun hh => ?_))
  · obtain ⟨n, rfl⟩ := Int.eq_ofNat_of_zero_le (show 0 ≤ a by omega)
    rw [en] at hh
    simp (decide := true) only [RR, ms_app, toList_some, toList_none, if_true, if_false, true_and, and_true, cond_true, sm0, sm1, sm1l, sm2, lc_lt, lc_gt, lc_eq, Int.toNat_natCast, Int.reduceToNat, Nat.reduceAdd, Nat.reduceEqDiff, Int.reduceLT, Int.reduceEq, Int.reduceNeg, Int.reduceAdd, Int.reduceMul, Nat.reduceMul, ms_n, ms_i, ms_l, ms_p, PX]
    refine At.blk rfl rfl rfl fun sx => ?_
    simp (decide := true) only [RR, ms_app, toList_some, toList_none, if_true, if_false, true_and, and_true, cond_true, sm0, sm1, sm1l, sm2, lc_lt, lc_gt, lc_eq, Int.toNat_natCast, Int.reduceToNat, Nat.reduceAdd, Nat.reduceEqDiff, Int.reduceLT, Int.reduceEq, Int.reduceNeg, Int.reduceAdd, Int.reduceMul, Nat.reduceMul, ms_n, ms_i, ms_l, ms_p, PX, fxX hF]
    refine cal_of rfl (x_remember hF r5 r2 r6 r4 ?_)
    simp (decide := true) only [RR, ms_app, toList_some, toList_none, if_true, if_false, true_and, and_true, cond_true, sm0, sm1, sm1l, sm2, lc_lt, lc_gt, lc_eq, Int.toNat_natCast, Int.reduceToNat, Nat.reduceAdd, Nat.reduceEqDiff, Int.reduceLT, Int.reduceEq, Int.reduceNeg, Int.reduceAdd, Int.reduceMul, Nat.reduceMul, ms_n, ms_i, ms_l, ms_p, PX]
    have loop : ∀ m k : Nat, n - k = m → k ≤ n → ∀ σ', Fr xnL xnT (remC σ x c) σ' → SkX σ' 28 C (ntM C w k) → KpX σ' (kpA C w l k) → At 999 129 2 [some (.inr (.inr 0)), some (.inl (n : Int)), some (.inl (rosN C w k)), some (.inl (k : Int))] [] σ' (fun r σ1 => ∃ v, r = some (.inl v) ∧ Mt 1000 233 [.inr (.inr 146), .inl (n : Int)] σ1 (fun r2 σ2 => r2 = some (.inl v) ∧ Inv σ2)) := by
      intro m
      induction m with
      | zero =>
        intro k hk hk2 σ' fr sX kx
        obtain rfl : k = n := by omega
        refine At.blk rfl rfl rfl fun sx => ?_
        simp (decide := true) only [RR, ms_app, toList_some, toList_none, if_true, if_false, true_and, and_true, cond_true, sm0, sm1, sm1l, sm2, lc_lt, lc_gt, lc_eq, Int.toNat_natCast, Int.reduceToNat, Nat.reduceAdd, Nat.reduceEqDiff, Int.reduceLT, Int.reduceEq, Int.reduceNeg, Int.reduceAdd, Int.reduceMul, Nat.reduceMul, ms_n, ms_i, ms_l, ms_p, PX]
        rw [if_neg (by omega)]
        refine At.blk rfl rfl rfl fun sx => ?_
        simp (decide := true) only [RR, ms_app, toList_some, toList_none, if_true, if_false, true_and, and_true, cond_true, sm0, sm1, sm1l, sm2, lc_lt, lc_gt, lc_eq, Int.toNat_natCast, Int.reduceToNat, Nat.reduceAdd, Nat.reduceEqDiff, Int.reduceLT, Int.reduceEq, Int.reduceNeg, Int.reduceAdd, Int.reduceMul, Nat.reduceMul, ms_n, ms_i, ms_l, ms_p, PX]
        refine ⟨_, rfl, ?_⟩
        have F1 := fix_remC (c := c) hF r2
        have hF' : Fix σ' := F1.fr fr rfl
        have row : ∀ q, (!(xnL.elem q) && xnT.all (fun p => !(Nat.beq p.1 q))) = true → q ≠ 41 → (q < 44 ∨ 144 ≤ q) → σ' q = σ q := fun q h1 h2 h3 => (fr.row q h1).trans (remC_ne h2 (by omega))
        have e182 : σ' 182 = σ 182 := row 182 rfl (by decide) (by omega)
        refine Mt.go (lv := [some (.inr (.inr 146)), some (.inl (k : Int))]) rfl rfl rfl ?_
        refine At.blk rfl rfl rfl fun sx => ?_
        simp (decide := true) only [RR, ms_app, toList_some, toList_none, if_true, if_false, true_and, and_true, cond_true, sm0, sm1, sm1l, sm2, lc_lt, lc_gt, lc_eq, Int.toNat_natCast, Int.reduceToNat, Nat.reduceAdd, Nat.reduceEqDiff, Int.reduceLT, Int.reduceEq, Int.reduceNeg, Int.reduceAdd, Int.reduceMul, Nat.reduceMul, ms_n, ms_i, ms_l, ms_p, PM]
        refine cal_of rfl (m_isAhead hF' (by rw [e182]; omega) (by decide) (by decide) (fun h1 => ?_) (fun h1 => by rw [e182, em] at h1; omega))
        simp (decide := true) only [RR, ms_app, toList_some, toList_none, if_true, if_false, true_and, and_true, cond_true, sm0, sm1, sm1l, sm2, lc_lt, lc_gt, lc_eq, Int.toNat_natCast, Int.reduceToNat, Nat.reduceAdd, Nat.reduceEqDiff, Int.reduceLT, Int.reduceEq, Int.reduceNeg, Int.reduceAdd, Int.reduceMul, Nat.reduceMul, ms_n, ms_i, ms_l, ms_p, PM]
        refine At.blk rfl rfl rfl fun sx => ?_
        simp (decide := true) only [RR, ms_app, toList_some, toList_none, if_true, if_false, true_and, and_true, cond_true, sm0, sm1, sm1l, sm2, lc_lt, lc_gt, lc_eq, Int.toNat_natCast, Int.reduceToNat, Nat.reduceAdd, Nat.reduceEqDiff, Int.reduceLT, Int.reduceEq, Int.reduceNeg, Int.reduceAdd, Int.reduceMul, Nat.reduceMul, ms_n, ms_i, ms_l, ms_p, PM]
        refine cal_of rfl (m_keeps hF' (by rw [row 146 rfl (by decide) (by omega)]; exact r1) r2 (by rw [row 146 rfl (by decide) (by omega)]; exact r3) r4 ?_)
        simp (decide := true) only [RR, ms_app, toList_some, toList_none, if_true, if_false, true_and, and_true, cond_true, sm0, sm1, sm1l, sm2, lc_lt, lc_gt, lc_eq, Int.toNat_natCast, Int.reduceToNat, Nat.reduceAdd, Nat.reduceEqDiff, Int.reduceLT, Int.reduceEq, Int.reduceNeg, Int.reduceAdd, Int.reduceMul, Nat.reduceMul, ms_n, ms_i, ms_l, ms_p, PM]
        have hF3 : Fix (mj_set (keepM σ' x c) 146 54 0) := (fix_keepM hF').set rfl
        have row3 : ∀ q, q ≠ 193 → q ≠ 146 → (!(xnL.elem q) && xnT.all (fun p => !(Nat.beq p.1 q))) = true → q ≠ 41 → (q < 44 ∨ 144 ≤ q) → mj_set (keepM σ' x c) 146 54 0 q = σ q := fun q z1 z2 h1 h2 h3 => by
          rw [ms_row z2, keepM_ne z1 z2]; exact row q h1 h2 h3
        have z53 : mj_set (keepM σ' x c) 146 54 0 146 53 = 0 := by
          rw [ms_app, if_pos rfl, if_neg (by decide), keepM_146 (by decide) (by decide), row 146 rfl (by decide) (by omega)]
          exact h.2.2.2.2.2.2.2.2.2.2.2
        refine cal_of rfl (m_nightsGo (th := 0) (l := l) hF3 hC hw (by omega) (by omega) (fun _ => by omega) (hcm.cg (by rw [row3 173 (by decide) (by decide) rfl (by decide) (by omega)]) (by rw [row3 178 (by decide) (by decide) rfl (by decide) (by omega)]) (row3 176 (by decide) (by decide) rfl (by decide) (by omega)) (row3 179 (by decide) (by decide) rfl (by decide) (by omega)) (row3 180 (by decide) (by decide) rfl (by decide) (by omega)) (row3 181 (by decide) (by decide) rfl (by decide) (by omega))) (hsm.cg (fun j _ => by rw [row3 182 (by decide) (by decide) rfl (by decide) (by omega)]) hC.1) z53 (Or.inr ⟨rfl, hkm.cg (row3 182 (by decide) (by decide) rfl (by decide) (by omega)), hkv⟩) (fun σ4 f4 s4 k4 c4 _ _ => ?_))
        have hF4 := hF3.fr f4 rfl
        have c4 := c4 (by rw [ms_app, if_pos rfl, if_pos rfl]; decide) (by rw [ms_app, if_pos rfl, if_pos rfl]; decide)
        rw [ms_app, if_pos rfl, if_pos rfl, Int.zero_add] at c4
        simp (decide := true) only [RR, ms_app, toList_some, toList_none, if_true, if_false, true_and, and_true, cond_true, sm0, sm1, sm1l, sm2, lc_lt, lc_gt, lc_eq, Int.toNat_natCast, Int.reduceToNat, Nat.reduceAdd, Nat.reduceEqDiff, Int.reduceLT, Int.reduceEq, Int.reduceNeg, Int.reduceAdd, Int.reduceMul, Nat.reduceMul, ms_n, ms_i, ms_l, ms_p, PM, fxM hF4, c4]
        have I0 := h.keep r1 r6
        have f0 : Fr nxL nxT (keepM (remC σ x c) x c) σ4 := (((keepM_fr fr (fr.row 182 rfl)).mono rfl).set rfl).trans (f4.mono rfl)
        have kk : KpM σ4 (kpA C w l k) ∧ KpV (kpA C w l k) := by
          rcases k4 with ⟨k5, _⟩ | ⟨_, k5⟩
          · exact absurd k5 (by decide)
          · exact k5
        have r4 : ∀ q, (!(mnL.elem q) && mnT.all (fun p => !(Nat.beq p.1 q))) = true → q ≠ 193 → q ≠ 146 → σ4 q = σ' q := fun q z1 z2 z3 => by
          rw [f4.row q z1, ms_row z3, keepM_ne z2 z3]
        have wn := ntM_night (C := C) (w := w) k
        refine I0.nx f0 (I0.2.2.2.2.1.cg ?_ ?_) (sky_of ?_ (ntM_V hw k (by omega)) (sX.cg (r4 28 rfl (by decide) (by decide)) (r4 29 rfl (by decide) (by decide)) (r4 30 rfl (by decide) (by decide))) s4 (by omega)) (kept_of (kx.cg (by rw [r4 39 rfl (by decide) (by decide)]) (r4 40 rfl (by decide) (by decide))) kk.1 kk.2)
        · rw [f4 146 67 rfl, ms_app, if_pos rfl, if_neg (by decide), keepM_146 (by decide) (by decide), keepM_146 (by decide) (by decide), fr.row 146 rfl]
        · rw [r4 0 rfl (by decide) (by decide), keepM_ne (by decide) (by decide), fr.row 0 rfl]
        · rw [r4 3 rfl (by decide) (by decide), row 3 rfl (by decide) (by omega)]; exact hcx.1
      | succ m ih =>
        intro k hk hk2 σ' fr sX kx
        have F1 := fix_remC (c := c) hF r2
        have hF' : Fix σ' := F1.fr fr rfl
        have row : ∀ q, (!(xnL.elem q) && xnT.all (fun p => !(Nat.beq p.1 q))) = true → q ≠ 41 → (q < 44 ∨ 144 ≤ q) → σ' q = σ q := fun q h1 h2 h3 => (fr.row q h1).trans (remC_ne h2 (by omega))
        have wn := ntM_night (C := C) (w := w) k
        have b4 := rosN_le (w := w) hC k
        have b5 := roseP_le (w := ntM C w k) hC
        have w1 : Unit → w32 ((k : Int) + 1) = ((k + 1 : Nat) : Int) := fun _ => by rw [w32_small (by omega) (by omega)]; omega
        refine At.blk rfl rfl rfl fun sx => ?_
        simp (decide := true) only [RR, ms_app, toList_some, toList_none, if_true, if_false, true_and, and_true, cond_true, sm0, sm1, sm1l, sm2, lc_lt, lc_gt, lc_eq, Int.toNat_natCast, Int.reduceToNat, Nat.reduceAdd, Nat.reduceEqDiff, Int.reduceLT, Int.reduceEq, Int.reduceNeg, Int.reduceAdd, Int.reduceMul, Nat.reduceMul, ms_n, ms_i, ms_l, ms_p, PX]
        rw [if_pos (by omega)]
        refine cal_of rfl (x_passNight hF' hC (ntM_V hw k (by omega)) (by omega) (hcx.cg (row 3 rfl (by decide) (by omega)) (row 6 rfl (by decide) (by omega)) (row 8 rfl (by decide) (by omega)) (row 9 rfl (by decide) (by omega)) (row 10 rfl (by decide) (by omega))) sX kx (kpA_V hC h9.1 hkv k (by omega)) (fun σ2 f2 s2 k2 => ?_))
        simp (decide := true) only [RR, ms_app, toList_some, toList_none, if_true, if_false, true_and, and_true, cond_true, sm0, sm1, sm1l, sm2, lc_lt, lc_gt, lc_eq, Int.toNat_natCast, Int.reduceToNat, Nat.reduceAdd, Nat.reduceEqDiff, Int.reduceLT, Int.reduceEq, Int.reduceNeg, Int.reduceAdd, Int.reduceMul, Nat.reduceMul, ms_n, ms_i, ms_l, ms_p, PX, w1 ()]
        rw [w32_small (by omega) (by omega)]
        rw [nxC_eq (by omega)] at s2
        exact ih (k + 1) (by omega) (by omega) σ2 (fr.trans f2) s2 k2
    refine loop n 0 rfl (by omega) _ Fr.same (hsx.cg (remC_ne (by decide) (by omega)) (remC_ne (by decide) (by omega)) (remC_ne (by decide) (by omega))) (hkx.cg (by rw [remC_ne (by decide) (by omega)]) (remC_ne (by decide) (by omega)))
  · rw [en] at hh
    simp (decide := true) only [RR, ms_app, toList_some, toList_none, if_true, if_false, true_and, and_true, cond_true, sm0, sm1, sm1l, sm2, lc_lt, lc_gt, lc_eq, Int.toNat_natCast, Int.reduceToNat, Nat.reduceAdd, Nat.reduceEqDiff, Int.reduceLT, Int.reduceEq, Int.reduceNeg, Int.reduceAdd, Int.reduceMul, Nat.reduceMul, ms_n, ms_i, ms_l, ms_p, PX]
    refine cal_of rfl (x_refuse (k := 3) hF (by decide) ?_)
    simp (decide := true) only [RR, ms_app, toList_some, toList_none, if_true, if_false, true_and, and_true, cond_true, sm0, sm1, sm1l, sm2, lc_lt, lc_gt, lc_eq, Int.toNat_natCast, Int.reduceToNat, Nat.reduceAdd, Nat.reduceEqDiff, Int.reduceLT, Int.reduceEq, Int.reduceNeg, Int.reduceAdd, Int.reduceMul, Nat.reduceMul, ms_n, ms_i, ms_l, ms_p, PX]
    refine ⟨-1, rfl, ?_⟩
    have hF2 : Fix (mj_set σ 145 3 (w32 (σ 145 3 + 1))) := hF.set rfl
    refine Mt.go (lv := [some (.inr (.inr 146)), some (.inl a)]) rfl rfl rfl ?_
    refine At.blk rfl rfl rfl fun sx => ?_
    simp (decide := true) only [RR, ms_app, toList_some, toList_none, if_true, if_false, true_and, and_true, cond_true, sm0, sm1, sm1l, sm2, lc_lt, lc_gt, lc_eq, Int.toNat_natCast, Int.reduceToNat, Nat.reduceAdd, Nat.reduceEqDiff, Int.reduceLT, Int.reduceEq, Int.reduceNeg, Int.reduceAdd, Int.reduceMul, Nat.reduceMul, ms_n, ms_i, ms_l, ms_p, PM]
    refine cal_of rfl (m_isAhead hF2 (by show 0 ≤ σ 182 0 ∧ σ 182 0 ≤ 1100; omega) (by decide) (by decide) (fun h1 => ?_) (fun h1 => ?_))
    · have h1 : 1 ≤ a ∧ a ≤ 100 ∧ σ 182 0 + a ≤ 999 := h1
      omega
    · simp (decide := true) only [RR, ms_app, toList_some, toList_none, if_true, if_false, true_and, and_true, cond_true, sm0, sm1, sm1l, sm2, lc_lt, lc_gt, lc_eq, Int.toNat_natCast, Int.reduceToNat, Nat.reduceAdd, Nat.reduceEqDiff, Int.reduceLT, Int.reduceEq, Int.reduceNeg, Int.reduceAdd, Int.reduceMul, Nat.reduceMul, ms_n, ms_i, ms_l, ms_p, PM]
      refine cal_of rfl (m_refuses (k := 3) (by decide) hF2 ?_)
      simp (decide := true) only [RR, ms_app, toList_some, toList_none, if_true, if_false, true_and, and_true, cond_true, sm0, sm1, sm1l, sm2, lc_lt, lc_gt, lc_eq, Int.toNat_natCast, Int.reduceToNat, Nat.reduceAdd, Nat.reduceEqDiff, Int.reduceLT, Int.reduceEq, Int.reduceNeg, Int.reduceAdd, Int.reduceMul, Nat.reduceMul, ms_n, ms_i, ms_l, ms_p, PM]
      exact h.ref (by decide)
