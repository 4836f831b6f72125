def xwL : List Nat := [22, 23, 24, 25, 26, 27]
def xwT : List (Nat × Nat) := [(21, 4)]
section
variable {d : Nat} {σ : mM} {K : Option mV → mM → Prop}
theorem CtX.xw {C : Ct} {σ' : mM} (h : CtX σ C) (fr : Fr xwL xwT σ σ') : CtX σ' C := h.cg (fr.row 3 rfl) (fr.row 6 rfl) (fr.row 8 rfl) (fr.row 9 rfl) (fr.row 10 rfl)
theorem SkX.xw28 {C : Ct} {w : Sk} {σ' : mM} (h : SkX σ 28 C w) (fr : Fr xwL xwT σ σ') : SkX σ' 28 C w := h.cg (fr.row 28 rfl) (fr.row 29 rfl) (fr.row 30 rfl)
theorem x_gales28 {C : Ct} {w : Sk} (hF : Fix σ) (hC : CtV C) (hc : CtX σ C) (hs : SkX σ 28 C w) (hK : K (some (.inl (galesP C w))) σ) : Mt (d + 1) 94 [.inr (.inr 21), .inr (.inr 28)] σ K := by
  have n7 := hC.1
  refine x_countGales28 hF (by rw [hc.1]; omega) ?_
  have e : sumN (fun p => galeI (σ 3 8) (σ 29 p)) (σ 3 4).toNat = galesP C w := by
    unfold galesP
    rw [hc.1, Int.toNat_natCast, hc.2.1]
    exact sumN_cg _ (fun j hj => by rw [show σ 29 j = w.2.1 j from (hs.2.2.2 j hj).1])
  rw [e]; exact hK
theorem x_rivalFor28 {C : Ct} {w : Sk} {p : Nat} (hF : Fix σ) (hC : CtV C) (hw : SkV C w) (hp : p < C.1) (hc : CtX σ C) (hs : SkX σ 28 C w) (hE : EnX σ C w) (hK : ∀ σ', Fr [22] [] σ σ' → K (some (.inl (rivP C w p))) σ') : Mt (d + 4) 98 [.inr (.inr 21), .inl (p : Int), .inr (.inr 28)] σ K := by
  refine Mt.go (lv := [some (.inr (.inr 21)), some (.inl (p : Int)), some (.inr (.inr 28))]) rfl rfl rfl ?_
  obtain ⟨hty, h45, -⟩ := hC.2.2.2 1 (by decide)
  refine At.blk rfl rfl rfl fun sx => ?_
  simp (decide := true) only [RR, ms_app, toList_some, toList_none, if_true, if_false, true_and, and_true, cond_true, sm0, sm1, sm1l, sm2, lc_lt, lc_gt, lc_eq, Int.toNat_natCast, Int.reduceToNat, Nat.reduceAdd, Nat.reduceEqDiff, Int.reduceLT, Int.reduceEq, Int.reduceNeg, Int.reduceAdd, Int.reduceMul, Nat.reduceMul, ms_n, ms_i, ms_l, ms_p, PX, fxX hF]
  refine cal_of rfl (x_valuea (r := 1) (t := fun _ => 0) hF hC hw hp hc.1 (hc.2.2.1 p hp) hs hE (fun h => absurd h (h45 (by decide))) (by decide) (by decide) (hc.2.2.2 1 (by decide)) hty (fun σ1 f1 => ?_))
  simp (decide := true) only [RR, ms_app, toList_some, toList_none, if_true, if_false, true_and, and_true, cond_true, sm0, sm1, sm1l, sm2, lc_lt, lc_gt, lc_eq, Int.toNat_natCast, Int.reduceToNat, Nat.reduceAdd, Nat.reduceEqDiff, Int.reduceLT, Int.reduceEq, Int.reduceNeg, Int.reduceAdd, Int.reduceMul, Nat.reduceMul, ms_n, ms_i, ms_l, ms_p, PX]
  refine cal_of rfl (x_airOf ?_)
  simp (decide := true) only [RR, ms_app, toList_some, toList_none, if_true, if_false, true_and, and_true, cond_true, sm0, sm1, sm1l, sm2, lc_lt, lc_gt, lc_eq, Int.toNat_natCast, Int.reduceToNat, Nat.reduceAdd, Nat.reduceEqDiff, Int.reduceLT, Int.reduceEq, Int.reduceNeg, Int.reduceAdd, Int.reduceMul, Nat.reduceMul, ms_n, ms_i, ms_l, ms_p, PX]
  exact hK σ1 f1
theorem x_foresee28 {C : Ct} {w : Sk} (hF : Fix σ) (hC : CtV C) (hw : SkV C w) (hc : CtX σ C) (hs : SkX σ 28 C w) (hK : ∀ σ', Fr xwL xwT σ σ' → EnX σ' C w → (∀ p, p < C.1 → σ' 25 p = readP C w p ∧ σ' 26 p = tolP C w p ∧ σ' 27 p = thnP C w p) → K none σ') : Mt (d + 4) 95 [.inr (.inr 21), .inr (.inr 28)] σ K := by
  refine Mt.go (lv := [some (.inr (.inr 21)), some (.inr (.inr 28)), none, none, none]) rfl rfl rfl ?_
  have n7 := hC.1
  -- the airs then
  have loop3 : ∀ (lo ll : Option mV) (σ2 : mM), Fr xwL xwT σ σ2 → EnX σ2 C w → (∀ p, p < C.1 → σ2 25 p = readP C w p ∧ σ2 26 p = tolP C w p) → ∀ m k : Nat, C.1 - k = m → k ≤ C.1 → ∀ σ', Fr [22, 27] [] σ2 σ' → (∀ p, p < k → σ' 27 p = thnP C w p) → At (d + 3) 95 13 [some (.inr (.inr 21)), some (.inr (.inr 28)), some (.inl (k : Int)), lo, ll] [] σ' K := by
    intro lo ll σ2 F2 E2 h2 m
    induction m with
    | zero =>
      intro k hk hk2 σ' fr hL
      obtain rfl : k = C.1 := by omega
      have F : Fr xwL xwT σ σ' := F2.trans (fr.mono rfl)
      have hF' := hF.fr F rfl
      refine At.blk rfl rfl rfl fun sx => ?_
      simp (decide := true) only [RR, ms_app, toList_some, toList_none, if_true, if_false, true_and, and_true, cond_true, sm0, sm1, sm1l, sm2, lc_lt, lc_gt, lc_eq, Int.toNat_natCast, Int.reduceToNat, Nat.reduceAdd, Nat.reduceEqDiff, Int.reduceLT, Int.reduceEq, Int.reduceNeg, Int.reduceAdd, Int.reduceMul, Nat.reduceMul, ms_n, ms_i, ms_l, ms_p, PX, fxX hF', (hc.xw F).1]
      rw [if_neg (by omega)]
      refine At.blk rfl rfl rfl fun sx => ?_
      simp (decide := true) only [RR, ms_app, toList_some, toList_none, if_true, if_false, true_and, and_true, cond_true, sm0, sm1, sm1l, sm2, lc_lt, lc_gt, lc_eq, Int.toNat_natCast, Int.reduceToNat, Nat.reduceAdd, Nat.reduceEqDiff, Int.reduceLT, Int.reduceEq, Int.reduceNeg, Int.reduceAdd, Int.reduceMul, Nat.reduceMul, ms_n, ms_i, ms_l, ms_p, PX]
      exact hK σ' F (E2.cg (fr 21 4 rfl) (fr.row 23 rfl) (fr.row 24 rfl)) (fun p hp => ⟨(fr 25 p rfl).trans (h2 p hp).1, (fr 26 p rfl).trans (h2 p hp).2, hL p hp⟩)
    | succ m ih =>
      intro k hk hk2 σ' fr hL
      have hk3 : k < C.1 := by omega
      have F : Fr xwL xwT σ σ' := F2.trans (fr.mono rfl)
      have hF' := hF.fr F rfl
      have hcF := hc.xw F
      have w1 : Unit → w32 ((k : Int) + 1) = ((k + 1 : Nat) : Int) := fun _ => by rw [w32_small (by omega) (by omega)]; omega
      obtain ⟨hty, -, -⟩ := hC.2.2.2 2 (by decide)
      have tb := tol_le hw hk3
      refine At.blk rfl rfl rfl fun sx => ?_
      simp (decide := true) only [RR, ms_app, toList_some, toList_none, if_true, if_false, true_and, and_true, cond_true, sm0, sm1, sm1l, sm2, lc_lt, lc_gt, lc_eq, Int.toNat_natCast, Int.reduceToNat, Nat.reduceAdd, Nat.reduceEqDiff, Int.reduceLT, Int.reduceEq, Int.reduceNeg, Int.reduceAdd, Int.reduceMul, Nat.reduceMul, ms_n, ms_i, ms_l, ms_p, PX, fxX hF', hcF.1]
      rw [if_pos (by omega)]
      refine cal_of rfl (x_valuea (r := 2) (t := tolP C w) hF' hC hw hk3 hcF.1 (hcF.2.2.1 k hk3) (hs.xw28 F) (E2.cg (fr 21 4 rfl) (fr.row 23 rfl) (fr.row 24 rfl)) (fun _ => (fr 26 k rfl).trans (h2 k hk3).2) (by omega) (by decide) (hcF.2.2.2 2 (by decide)) hty (fun σ1 f1 => ?_))
      simp (decide := true) only [RR, ms_app, toList_some, toList_none, if_true, if_false, true_and, and_true, cond_true, sm0, sm1, sm1l, sm2, lc_lt, lc_gt, lc_eq, Int.toNat_natCast, Int.reduceToNat, Nat.reduceAdd, Nat.reduceEqDiff, Int.reduceLT, Int.reduceEq, Int.reduceNeg, Int.reduceAdd, Int.reduceMul, Nat.reduceMul, ms_n, ms_i, ms_l, ms_p, PX]
      refine cal_of rfl (x_airOf ?_)
      simp (decide := true) only [RR, ms_app, toList_some, toList_none, if_true, if_false, true_and, and_true, cond_true, sm0, sm1, sm1l, sm2, lc_lt, lc_gt, lc_eq, Int.toNat_natCast, Int.reduceToNat, Nat.reduceAdd, Nat.reduceEqDiff, Int.reduceLT, Int.reduceEq, Int.reduceNeg, Int.reduceAdd, Int.reduceMul, Nat.reduceMul, ms_n, ms_i, ms_l, ms_p, PX, w1 ()]
      refine ⟨⟨by omega, by omega⟩, ?_⟩
      refine ih (k + 1) (by omega) (by omega) _ ((fr.trans (f1.mono rfl)).setr rfl) (fun p hp => ?_)
      rw [ms_app, if_pos rfl]
      by_cases e : p = k
      · rw [if_pos e, e]; rfl
      · rw [if_neg e, f1 27 p rfl]
        exact hL p (by omega)
  -- what is read and told
  have loop2 : ∀ (σ1 : mM), Fr xwL xwT σ σ1 → EnX σ1 C w → ∀ m k : Nat, C.1 - k = m → k ≤ C.1 → ∀ (lo ll : Option mV) (σ' : mM), Fr [22, 25, 26] [] σ1 σ' → (∀ p, p < k → σ' 25 p = readP C w p ∧ σ' 26 p = tolP C w p) → At (d + 3) 95 3 [some (.inr (.inr 21)), some (.inr (.inr 28)), some (.inl (k : Int)), lo, ll] [] σ' K := by
    intro σ1 F1 E1 m
    induction m with
    | zero =>
      intro k hk hk2 lo ll σ' fr hL
      obtain rfl : k = C.1 := by omega
      have F : Fr xwL xwT σ σ' := F1.trans (fr.mono rfl)
      have hF' := hF.fr F rfl
      refine At.blk rfl rfl rfl fun sx => ?_
      simp (decide := true) only [RR, ms_app, toList_some, toList_none, if_true, if_false, true_and, and_true, cond_true, sm0, sm1, sm1l, sm2, lc_lt, lc_gt, lc_eq, Int.toNat_natCast, Int.reduceToNat, Nat.reduceAdd, Nat.reduceEqDiff, Int.reduceLT, Int.reduceEq, Int.reduceNeg, Int.reduceAdd, Int.reduceMul, Nat.reduceMul, ms_n, ms_i, ms_l, ms_p, PX, fxX hF', (hc.xw F).1]
      rw [if_neg (by omega)]
      refine At.blk rfl rfl rfl fun sx => ?_
      simp (decide := true) only [RR, ms_app, toList_some, toList_none, if_true, if_false, true_and, and_true, cond_true, sm0, sm1, sm1l, sm2, lc_lt, lc_gt, lc_eq, Int.toNat_natCast, Int.reduceToNat, Nat.reduceAdd, Nat.reduceEqDiff, Int.reduceLT, Int.reduceEq, Int.reduceNeg, Int.reduceAdd, Int.reduceMul, Nat.reduceMul, ms_n, ms_i, ms_l, ms_p, PX]
      exact loop3 lo ll σ' F (E1.cg (fr 21 4 rfl) (fr.row 23 rfl) (fr.row 24 rfl)) hL C.1 0 rfl (by omega) σ' Fr.same (fun p hp => by omega)
    | succ m ih =>
      intro k hk hk2 lo ll σ' fr hL
      have hk3 : k < C.1 := by omega
      have F : Fr xwL xwT σ σ' := F1.trans (fr.mono rfl)
      have hF' := hF.fr F rfl
      have hcF := hc.xw F
      have hsF := hs.xw28 F
      have w1 : Unit → w32 ((k : Int) + 1) = ((k + 1 : Nat) : Int) := fun _ => by rw [w32_small (by omega) (by omega)]; omega
      obtain ⟨hty, h45, -⟩ := hC.2.2.2 0 (by decide)
      have act : ActR (σ' 30 k) (w.2.2.2.2 k) := (hsF.2.2.2 k hk3).2.2.2
      have df : bit (σ' 28 4) k = w.2.2.2.1 k := (hsF.2.2.2 k hk3).2.2.1
      have ai : σ' 29 k = w.2.1 k := (hsF.2.2.2 k hk3).1
      have db := pw_128 n7 hsF.2.2.1
      have dv := (hw.2 k hk3).2.2.1
      have seven : ∀ (σ2 : mM), Fr [22, 25] [] σ' σ2 → σ2 25 k = readP C w k → (∀ p, p ≠ k → σ2 25 p = σ' 25 p) → At (d + 3) 95 7 [some (.inr (.inr 21)), some (.inr (.inr 28)), some (.inl (k : Int)), some (.inl (σ' 30 k)), ll] [] σ2 K := by
        intro σ2 f2 r2 o2
        have G : Fr [22, 25, 26] [] σ1 σ2 := fr.trans (f2.mono rfl)
        have hF2 := hF.fr (F1.trans (G.mono rfl)) rfl
        have eleven : ∀ (v : Int) (l2 : Option mV), v = tolP C w k → At (d + 3) 95 11 [some (.inr (.inr 21)), some (.inr (.inr 28)), some (.inl (k : Int)), some (.inl (σ' 30 k)), l2] [.inl v, .inl (k : Int), .inr (.inr 26)] σ2 K := by
          intro v l2 hv
          refine At.blk rfl rfl rfl fun sx => ?_
          simp (decide := true) only [RR, ms_app, toList_some, toList_none, if_true, if_false, true_and, and_true, cond_true, sm0, sm1, sm1l, sm2, lc_lt, lc_gt, lc_eq, Int.toNat_natCast, Int.reduceToNat, Nat.reduceAdd, Nat.reduceEqDiff, Int.reduceLT, Int.reduceEq, Int.reduceNeg, Int.reduceAdd, Int.reduceMul, Nat.reduceMul, ms_n, ms_i, ms_l, ms_p, PX, w1 ()]
          refine ⟨⟨by omega, by omega⟩, ?_⟩
          refine ih (k + 1) (by omega) (by omega) _ _ _ (G.setr rfl) (fun p hp => ?_)
          rw [ms_row (by decide), ms_app, if_pos rfl]
          by_cases e : p = k
          · subst e
            rw [if_pos rfl]
            exact ⟨r2, hv⟩
          · rw [if_neg e, o2 p e, f2 26 p rfl]
            exact hL p (by omega)
        unfold tolP at eleven
        have nine0 : (w.2.2.2.1 k = 1 ∨ readP C w k = -1) → At (d + 3) 95 9 [some (.inr (.inr 21)), some (.inr (.inr 28)), some (.inl (k : Int)), some (.inl (σ' 30 k)), ll] [.inl 0] σ2 K := by
          intro hh
          refine At.blk rfl rfl rfl fun sx => ?_
          simp (decide := true) only [RR, ms_app, toList_some, toList_none, if_true, if_false, true_and, and_true, cond_true, sm0, sm1, sm1l, sm2, lc_lt, lc_gt, lc_eq, Int.toNat_natCast, Int.reduceToNat, Nat.reduceAdd, Nat.reduceEqDiff, Int.reduceLT, Int.reduceEq, Int.reduceNeg, Int.reduceAdd, Int.reduceMul, Nat.reduceMul, ms_n, ms_i, ms_l, ms_p, PX, fxX hF2]
          refine At.blk rfl rfl rfl fun sx => ?_
          simp (decide := true) only [RR, ms_app, toList_some, toList_none, if_true, if_false, true_and, and_true, cond_true, sm0, sm1, sm1l, sm2, lc_lt, lc_gt, lc_eq, Int.toNat_natCast, Int.reduceToNat, Nat.reduceAdd, Nat.reduceEqDiff, Int.reduceLT, Int.reduceEq, Int.reduceNeg, Int.reduceAdd, Int.reduceMul, Nat.reduceMul, ms_n, ms_i, ms_l, ms_p, PX, fxX hF2, (f2 29 k rfl).trans ai]
          refine ⟨⟨by omega, by omega⟩, ?_⟩
          exact eleven _ _ (by rw [if_pos hh])
        have bi : i_and (i_shr (σ2 28 4) (k : Int)) 1 = w.2.2.2.1 k := by
          rw [f2 28 4 rfl, i_bit db.1 (by omega) (by omega), Int.toNat_natCast, df]
        refine At.blk rfl rfl rfl fun sx => ?_
        simp (decide := true) only [RR, ms_app, toList_some, toList_none, if_true, if_false, true_and, and_true, cond_true, sm0, sm1, sm1l, sm2, lc_lt, lc_gt, lc_eq, Int.toNat_natCast, Int.reduceToNat, Nat.reduceAdd, Nat.reduceEqDiff, Int.reduceLT, Int.reduceEq, Int.reduceNeg, Int.reduceAdd, Int.reduceMul, Nat.reduceMul, ms_n, ms_i, ms_l, ms_p, PX, fxX hF2, r2, bi]
        refine ⟨⟨by omega, by omega⟩, ?_⟩
        by_cases h1 : readP C w k = -1
        · rw [if_pos h1]
          refine At.blk rfl rfl rfl fun sx => ?_
          simp (decide := true) only [RR, ms_app, toList_some, toList_none, if_true, if_false, true_and, and_true, cond_true, sm0, sm1, sm1l, sm2, lc_lt, lc_gt, lc_eq, Int.toNat_natCast, Int.reduceToNat, Nat.reduceAdd, Nat.reduceEqDiff, Int.reduceLT, Int.reduceEq, Int.reduceNeg, Int.reduceAdd, Int.reduceMul, Nat.reduceMul, ms_n, ms_i, ms_l, ms_p, PX]
          exact nine0 (Or.inr h1)
        · rw [if_neg h1]
          by_cases h2 : w.2.2.2.1 k = 0
          · rw [if_pos h2]
            refine At.blk rfl rfl rfl fun sx => ?_
            simp (decide := true) only [RR, ms_app, toList_some, toList_none, if_true, if_false, true_and, and_true, cond_true, sm0, sm1, sm1l, sm2, lc_lt, lc_gt, lc_eq, Int.toNat_natCast, Int.reduceToNat, Nat.reduceAdd, Nat.reduceEqDiff, Int.reduceLT, Int.reduceEq, Int.reduceNeg, Int.reduceAdd, Int.reduceMul, Nat.reduceMul, ms_n, ms_i, ms_l, ms_p, PX, fxX hF2, r2]
            refine ⟨⟨by omega, by omega⟩, ?_⟩
            refine eleven _ _ ?_
            rw [if_neg (fun h => by rcases h with h | h; omega; exact h1 h)]
          · rw [if_neg h2]
            refine At.blk rfl rfl rfl fun sx => ?_
            simp (decide := true) only [RR, ms_app, toList_some, toList_none, if_true, if_false, true_and, and_true, cond_true, sm0, sm1, sm1l, sm2, lc_lt, lc_gt, lc_eq, Int.toNat_natCast, Int.reduceToNat, Nat.reduceAdd, Nat.reduceEqDiff, Int.reduceLT, Int.reduceEq, Int.reduceNeg, Int.reduceAdd, Int.reduceMul, Nat.reduceMul, ms_n, ms_i, ms_l, ms_p, PX]
            exact nine0 (Or.inl (by omega))
      unfold readP at seven
      refine At.blk rfl rfl rfl fun sx => ?_
      simp (decide := true) only [RR, ms_app, toList_some, toList_none, if_true, if_false, true_and, and_true, cond_true, sm0, sm1, sm1l, sm2, lc_lt, lc_gt, lc_eq, Int.toNat_natCast, Int.reduceToNat, Nat.reduceAdd, Nat.reduceEqDiff, Int.reduceLT, Int.reduceEq, Int.reduceNeg, Int.reduceAdd, Int.reduceMul, Nat.reduceMul, ms_n, ms_i, ms_l, ms_p, PX, fxX hF', hcF.1]
      rw [if_pos (by omega)]
      refine ⟨⟨by omega, by omega⟩, ?_⟩
      by_cases h1 : σ' 30 k = 255
      · rw [if_pos h1]
        have hm : w.2.2.2.2 k = -1 := by unfold ActR at act; omega
        refine cal_of rfl (x_valuea (r := 0) (t := fun _ => 0) hF' hC hw hk3 hcF.1 (hcF.2.2.1 k hk3) hsF (E1.cg (fr 21 4 rfl) (fr.row 23 rfl) (fr.row 24 rfl)) (fun h => absurd h (h45 (by decide))) (by decide) (by decide) (hcF.2.2.2 0 (by decide)) hty (fun σ2 f2 => ?_))
        simp (decide := true) only [RR, ms_app, toList_some, toList_none, if_true, if_false, true_and, and_true, cond_true, sm0, sm1, sm1l, sm2, lc_lt, lc_gt, lc_eq, Int.toNat_natCast, Int.reduceToNat, Nat.reduceAdd, Nat.reduceEqDiff, Int.reduceLT, Int.reduceEq, Int.reduceNeg, Int.reduceAdd, Int.reduceMul, Nat.reduceMul, ms_n, ms_i, ms_l, ms_p, PX]
        refine cal_of rfl (x_airOf ?_)
        simp (decide := true) only [RR, ms_app, toList_some, toList_none, if_true, if_false, true_and, and_true, cond_true, sm0, sm1, sm1l, sm2, lc_lt, lc_gt, lc_eq, Int.toNat_natCast, Int.reduceToNat, Nat.reduceAdd, Nat.reduceEqDiff, Int.reduceLT, Int.reduceEq, Int.reduceNeg, Int.reduceAdd, Int.reduceMul, Nat.reduceMul, ms_n, ms_i, ms_l, ms_p, PX]
        refine ⟨⟨by omega, by omega⟩, ?_⟩
        refine seven _ ((f2.mono rfl).setr rfl) ?_ (fun p hp => ?_)
        · rw [ms_app, if_pos rfl, if_pos rfl, if_neg (by omega), if_pos hm]; rfl
        · rw [ms_app, if_pos rfl, if_neg hp, f2 25 p rfl]
      · rw [if_neg h1]
        refine At.blk rfl rfl rfl fun sx => ?_
        simp (decide := true) only [RR, ms_app, toList_some, toList_none, if_true, if_false, true_and, and_true, cond_true, sm0, sm1, sm1l, sm2, lc_lt, lc_gt, lc_eq, Int.toNat_natCast, Int.reduceToNat, Nat.reduceAdd, Nat.reduceEqDiff, Int.reduceLT, Int.reduceEq, Int.reduceNeg, Int.reduceAdd, Int.reduceMul, Nat.reduceMul, ms_n, ms_i, ms_l, ms_p, PX, fxX hF']
        by_cases h2 : σ' 30 k = 254
        · rw [if_pos h2]
          have hm : w.2.2.2.2 k = -2 := by unfold ActR at act; omega
          refine At.blk rfl rfl rfl fun sx => ?_
          simp (decide := true) only [RR, ms_app, toList_some, toList_none, if_true, if_false, true_and, and_true, cond_true, sm0, sm1, sm1l, sm2, lc_lt, lc_gt, lc_eq, Int.toNat_natCast, Int.reduceToNat, Nat.reduceAdd, Nat.reduceEqDiff, Int.reduceLT, Int.reduceEq, Int.reduceNeg, Int.reduceAdd, Int.reduceMul, Nat.reduceMul, ms_n, ms_i, ms_l, ms_p, PX]
          refine ⟨⟨by omega, by omega⟩, ?_⟩
          refine seven _ (Fr.same.setr rfl) ?_ (fun p hp => ?_)
          · rw [ms_app, if_pos rfl, if_pos rfl, if_pos hm]
          · rw [ms_app, if_pos rfl, if_neg hp]
        · rw [if_neg h2]
          have hm : w.2.2.2.2 k = σ' 30 k ∧ 0 ≤ σ' 30 k := by unfold ActR at act; omega
          refine At.blk rfl rfl rfl fun sx => ?_
          simp (decide := true) only [RR, ms_app, toList_some, toList_none, if_true, if_false, true_and, and_true, cond_true, sm0, sm1, sm1l, sm2, lc_lt, lc_gt, lc_eq, Int.toNat_natCast, Int.reduceToNat, Nat.reduceAdd, Nat.reduceEqDiff, Int.reduceLT, Int.reduceEq, Int.reduceNeg, Int.reduceAdd, Int.reduceMul, Nat.reduceMul, ms_n, ms_i, ms_l, ms_p, PX]
          refine At.blk rfl rfl rfl fun sx => ?_
          simp (decide := true) only [RR, ms_app, toList_some, toList_none, if_true, if_false, true_and, and_true, cond_true, sm0, sm1, sm1l, sm2, lc_lt, lc_gt, lc_eq, Int.toNat_natCast, Int.reduceToNat, Nat.reduceAdd, Nat.reduceEqDiff, Int.reduceLT, Int.reduceEq, Int.reduceNeg, Int.reduceAdd, Int.reduceMul, Nat.reduceMul, ms_n, ms_i, ms_l, ms_p, PX]
          refine ⟨⟨by omega, by omega⟩, ?_⟩
          refine seven _ (Fr.same.setr rfl) ?_ (fun p hp => ?_)
          · rw [ms_app, if_pos rfl, if_pos rfl, if_neg (by omega), if_neg (by omega), hm.1]
          · rw [ms_app, if_pos rfl, if_neg hp]
  -- around
  have loop1 : ∀ m k : Nat, C.1 - k = m → k ≤ C.1 → ∀ (σ' : mM), Fr [23, 24] [(21, 4)] σ σ' → σ' 21 4 = galesP C w → (∀ p, p < k → σ' 23 p = around C w true p ∧ σ' 24 p = around C w false p) → At (d + 3) 95 1 [some (.inr (.inr 21)), some (.inr (.inr 28)), some (.inl (k : Int)), none, none] [] σ' K := by
    intro m
    induction m with
    | zero =>
      intro k hk hk2 σ' fr hg hL
      obtain rfl : k = C.1 := by omega
      have F : Fr xwL xwT σ σ' := fr.mono rfl
      have hF' := hF.fr F rfl
      refine At.blk rfl rfl rfl fun sx => ?_
      simp (decide := true) only [RR, ms_app, toList_some, toList_none, if_true, if_false, true_and, and_true, cond_true, sm0, sm1, sm1l, sm2, lc_lt, lc_gt, lc_eq, Int.toNat_natCast, Int.reduceToNat, Nat.reduceAdd, Nat.reduceEqDiff, Int.reduceLT, Int.reduceEq, Int.reduceNeg, Int.reduceAdd, Int.reduceMul, Nat.reduceMul, ms_n, ms_i, ms_l, ms_p, PX, fxX hF', (hc.xw F).1]
      rw [if_neg (by omega)]
      refine At.blk rfl rfl rfl fun sx => ?_
      simp (decide := true) only [RR, ms_app, toList_some, toList_none, if_true, if_false, true_and, and_true, cond_true, sm0, sm1, sm1l, sm2, lc_lt, lc_gt, lc_eq, Int.toNat_natCast, Int.reduceToNat, Nat.reduceAdd, Nat.reduceEqDiff, Int.reduceLT, Int.reduceEq, Int.reduceNeg, Int.reduceAdd, Int.reduceMul, Nat.reduceMul, ms_n, ms_i, ms_l, ms_p, PX]
      exact loop2 σ' F ⟨hg, hL⟩ C.1 0 rfl (by omega) _ _ σ' Fr.same (fun p hp => by omega)
    | succ m ih =>
      intro k hk hk2 σ' fr hg hL
      have hk3 : k < C.1 := by omega
      have F : Fr xwL xwT σ σ' := fr.mono rfl
      have hF' := hF.fr F rfl
      have w1 : Unit → w32 ((k : Int) + 1) = ((k + 1 : Nat) : Int) := fun _ => by rw [w32_small (by omega) (by omega)]; omega
      refine At.blk rfl rfl rfl fun sx => ?_
      simp (decide := true) only [RR, ms_app, toList_some, toList_none, if_true, if_false, true_and, and_true, cond_true, sm0, sm1, sm1l, sm2, lc_lt, lc_gt, lc_eq, Int.toNat_natCast, Int.reduceToNat, Nat.reduceAdd, Nat.reduceEqDiff, Int.reduceLT, Int.reduceEq, Int.reduceNeg, Int.reduceAdd, Int.reduceMul, Nat.reduceMul, ms_n, ms_i, ms_l, ms_p, PX, fxX hF', (hc.xw F).1]
      rw [if_pos (by omega)]
      refine cal_of rfl (x_lookAround28 hF' hC hw hk3 (hc.xw F) (hs.xw28 F) ?_)
      simp (decide := true) only [RR, ms_app, toList_some, toList_none, if_true, if_false, true_and, and_true, cond_true, sm0, sm1, sm1l, sm2, lc_lt, lc_gt, lc_eq, Int.toNat_natCast, Int.reduceToNat, Nat.reduceAdd, Nat.reduceEqDiff, Int.reduceLT, Int.reduceEq, Int.reduceNeg, Int.reduceAdd, Int.reduceMul, Nat.reduceMul, ms_n, ms_i, ms_l, ms_p, PX, w1 ()]
      refine ih (k + 1) (by omega) (by omega) _ ((fr.setr rfl).setr rfl) hg (fun p hp => ?_)
      rw [ms_row (by decide), ms_app, if_pos rfl, ms_app, if_pos rfl]
      by_cases e : p = k
      · subst e
        rw [if_pos rfl, if_pos rfl]
        exact ⟨rfl, rfl⟩
      · rw [if_neg e, if_neg e]
        exact hL p (by omega)
  refine At.blk rfl rfl rfl fun sx => ?_
  simp (decide := true) only [RR, ms_app, toList_some, toList_none, if_true, if_false, true_and, and_true, cond_true, sm0, sm1, sm1l, sm2, lc_lt, lc_gt, lc_eq, Int.toNat_natCast, Int.reduceToNat, Nat.reduceAdd, Nat.reduceEqDiff, Int.reduceLT, Int.reduceEq, Int.reduceNeg, Int.reduceAdd, Int.reduceMul, Nat.reduceMul, ms_n, ms_i, ms_l, ms_p, PX, fxX hF]
  refine cal_of rfl (x_gales28 hF hC hc hs ?_)
  simp (decide := true) only [RR, ms_app, toList_some, toList_none, if_true, if_false, true_and, and_true, cond_true, sm0, sm1, sm1l, sm2, lc_lt, lc_gt, lc_eq, Int.toNat_natCast, Int.reduceToNat, Nat.reduceAdd, Nat.reduceEqDiff, Int.reduceLT, Int.reduceEq, Int.reduceNeg, Int.reduceAdd, Int.reduceMul, Nat.reduceMul, ms_n, ms_i, ms_l, ms_p, PX]
  exact loop1 C.1 0 rfl (by omega) _ (Fr.same.set rfl) rfl (fun p hp => by omega)
theorem SkX.xw34 {C : Ct} {w : Sk} {σ' : mM} (h : SkX σ 34 C w) (fr : Fr xwL xwT σ σ') : SkX σ' 34 C w := h.cg (fr.row 34 rfl) (fr.row 35 rfl) (fr.row 36 rfl)
theorem x_gales34 {C : Ct} {w : Sk} (hF : Fix σ) (hC : CtV C) (hc : CtX σ C) (hs : SkX σ 34 C w) (hK : K (some (.inl (galesP C w))) σ) : Mt (d + 1) 94 [.inr (.inr 21), .inr (.inr 34)] σ K := by
  have n7 := hC.1
  refine x_countGales34 hF (by rw [hc.1]; omega) ?_
  have e : sumN (fun p => galeI (σ 3 8) (σ 35 p)) (σ 3 4).toNat = galesP C w := by
    unfold galesP
    rw [hc.1, Int.toNat_natCast, hc.2.1]
    exact sumN_cg _ (fun j hj => by rw [show σ 35 j = w.2.1 j from (hs.2.2.2 j hj).1])
  rw [e]; exact hK
theorem x_rivalFor34 {C : Ct} {w : Sk} {p : Nat} (hF : Fix σ) (hC : CtV C) (hw : SkV C w) (hp : p < C.1) (hc : CtX σ C) (hs : SkX σ 34 C w) (hE : EnX σ C w) (hK : ∀ σ', Fr [22] [] σ σ' → K (some (.inl (rivP C w p))) σ') : Mt (d + 4) 98 [.inr (.inr 21), .inl (p : Int), .inr (.inr 34)] σ K := by
  refine Mt.go (lv := [some (.inr (.inr 21)), some (.inl (p : Int)), some (.inr (.inr 34))]) rfl rfl rfl ?_
  obtain ⟨hty, h45, -⟩ := hC.2.2.2 1 (by decide)
  refine At.blk rfl rfl rfl fun sx => ?_
  simp (decide := true) only [RR, ms_app, toList_some, toList_none, if_true, if_false, true_and, and_true, cond_true, sm0, sm1, sm1l, sm2, lc_lt, lc_gt, lc_eq, Int.toNat_natCast, Int.reduceToNat, Nat.reduceAdd, Nat.reduceEqDiff, Int.reduceLT, Int.reduceEq, Int.reduceNeg, Int.reduceAdd, Int.reduceMul, Nat.reduceMul, ms_n, ms_i, ms_l, ms_p, PX, fxX hF]
  refine cal_of rfl (x_valueb (r := 1) (t := fun _ => 0) hF hC hw hp hc.1 (hc.2.2.1 p hp) hs hE (fun h => absurd h (h45 (by decide))) (by decide) (by decide) (hc.2.2.2 1 (by decide)) hty (fun σ1 f1 => ?_))
  simp (decide := true) only [RR, ms_app, toList_some, toList_none, if_true, if_false, true_and, and_true, cond_true, sm0, sm1, sm1l, sm2, lc_lt, lc_gt, lc_eq, Int.toNat_natCast, Int.reduceToNat, Nat.reduceAdd, Nat.reduceEqDiff, Int.reduceLT, Int.reduceEq, Int.reduceNeg, Int.reduceAdd, Int.reduceMul, Nat.reduceMul, ms_n, ms_i, ms_l, ms_p, PX]
  refine cal_of rfl (x_airOf ?_)
  simp (decide := true) only [RR, ms_app, toList_some, toList_none, if_true, if_false, true_and, and_true, cond_true, sm0, sm1, sm1l, sm2, lc_lt, lc_gt, lc_eq, Int.toNat_natCast, Int.reduceToNat, Nat.reduceAdd, Nat.reduceEqDiff, Int.reduceLT, Int.reduceEq, Int.reduceNeg, Int.reduceAdd, Int.reduceMul, Nat.reduceMul, ms_n, ms_i, ms_l, ms_p, PX]
  exact hK σ1 f1
theorem x_foresee34 {C : Ct} {w : Sk} (hF : Fix σ) (hC : CtV C) (hw : SkV C w) (hc : CtX σ C) (hs : SkX σ 34 C w) (hK : ∀ σ', Fr xwL xwT σ σ' → EnX σ' C w → (∀ p, p < C.1 → σ' 25 p = readP C w p ∧ σ' 26 p = tolP C w p ∧ σ' 27 p = thnP C w p) → K none σ') : Mt (d + 4) 95 [.inr (.inr 21), .inr (.inr 34)] σ K := by
  refine Mt.go (lv := [some (.inr (.inr 21)), some (.inr (.inr 34)), none, none, none]) rfl rfl rfl ?_
  have n7 := hC.1
  -- the airs then
  have loop3 : ∀ (lo ll : Option mV) (σ2 : mM), Fr xwL xwT σ σ2 → EnX σ2 C w → (∀ p, p < C.1 → σ2 25 p = readP C w p ∧ σ2 26 p = tolP C w p) → ∀ m k : Nat, C.1 - k = m → k ≤ C.1 → ∀ σ', Fr [22, 27] [] σ2 σ' → (∀ p, p < k → σ' 27 p = thnP C w p) → At (d + 3) 95 13 [some (.inr (.inr 21)), some (.inr (.inr 34)), some (.inl (k : Int)), lo, ll] [] σ' K := by
    intro lo ll σ2 F2 E2 h2 m
    induction m with
    | zero =>
      intro k hk hk2 σ' fr hL
      obtain rfl : k = C.1 := by omega
      have F : Fr xwL xwT σ σ' := F2.trans (fr.mono rfl)
      have hF' := hF.fr F rfl
      refine At.blk rfl rfl rfl fun sx => ?_
      simp (decide := true) only [RR, ms_app, toList_some, toList_none, if_true, if_false, true_and, and_true, cond_true, sm0, sm1, sm1l, sm2, lc_lt, lc_gt, lc_eq, Int.toNat_natCast, Int.reduceToNat, Nat.reduceAdd, Nat.reduceEqDiff, Int.reduceLT, Int.reduceEq, Int.reduceNeg, Int.reduceAdd, Int.reduceMul, Nat.reduceMul, ms_n, ms_i, ms_l, ms_p, PX, fxX hF', (hc.xw F).1]
      rw [if_neg (by omega)]
      refine At.blk rfl rfl rfl fun sx => ?_
      simp (decide := true) only [RR, ms_app, toList_some, toList_none, if_true, if_false, true_and, and_true, cond_true, sm0, sm1, sm1l, sm2, lc_lt, lc_gt, lc_eq, Int.toNat_natCast, Int.reduceToNat, Nat.reduceAdd, Nat.reduceEqDiff, Int.reduceLT, Int.reduceEq, Int.reduceNeg, Int.reduceAdd, Int.reduceMul, Nat.reduceMul, ms_n, ms_i, ms_l, ms_p, PX]
      exact hK σ' F (E2.cg (fr 21 4 rfl) (fr.row 23 rfl) (fr.row 24 rfl)) (fun p hp => ⟨(fr 25 p rfl).trans (h2 p hp).1, (fr 26 p rfl).trans (h2 p hp).2, hL p hp⟩)
    | succ m ih =>
      intro k hk hk2 σ' fr hL
      have hk3 : k < C.1 := by omega
      have F : Fr xwL xwT σ σ' := F2.trans (fr.mono rfl)
      have hF' := hF.fr F rfl
      have hcF := hc.xw F
      have w1 : Unit → w32 ((k : Int) + 1) = ((k + 1 : Nat) : Int) := fun _ => by rw [w32_small (by omega) (by omega)]; omega
      obtain ⟨hty, -, -⟩ := hC.2.2.2 2 (by decide)
      have tb := tol_le hw hk3
      refine At.blk rfl rfl rfl fun sx => ?_
      simp (decide := true) only [RR, ms_app, toList_some, toList_none, if_true, if_false, true_and, and_true, cond_true, sm0, sm1, sm1l, sm2, lc_lt, lc_gt, lc_eq, Int.toNat_natCast, Int.reduceToNat, Nat.reduceAdd, Nat.reduceEqDiff, Int.reduceLT, Int.reduceEq, Int.reduceNeg, Int.reduceAdd, Int.reduceMul, Nat.reduceMul, ms_n, ms_i, ms_l, ms_p, PX, fxX hF', hcF.1]
      rw [if_pos (by omega)]
      refine cal_of rfl (x_valueb (r := 2) (t := tolP C w) hF' hC hw hk3 hcF.1 (hcF.2.2.1 k hk3) (hs.xw34 F) (E2.cg (fr 21 4 rfl) (fr.row 23 rfl) (fr.row 24 rfl)) (fun _ => (fr 26 k rfl).trans (h2 k hk3).2) (by omega) (by decide) (hcF.2.2.2 2 (by decide)) hty (fun σ1 f1 => ?_))
      simp (decide := true) only [RR, ms_app, toList_some, toList_none, if_true, if_false, true_and, and_true, cond_true, sm0, sm1, sm1l, sm2, lc_lt, lc_gt, lc_eq, Int.toNat_natCast, Int.reduceToNat, Nat.reduceAdd, Nat.reduceEqDiff, Int.reduceLT, Int.reduceEq, Int.reduceNeg, Int.reduceAdd, Int.reduceMul, Nat.reduceMul, ms_n, ms_i, ms_l, ms_p, PX]
      refine cal_of rfl (x_airOf ?_)
      simp (decide := true) only [RR, ms_app, toList_some, toList_none, if_true, if_false, true_and, and_true, cond_true, sm0, sm1, sm1l, sm2, lc_lt, lc_gt, lc_eq, Int.toNat_natCast, Int.reduceToNat, Nat.reduceAdd, Nat.reduceEqDiff, Int.reduceLT, Int.reduceEq, Int.reduceNeg, Int.reduceAdd, Int.reduceMul, Nat.reduceMul, ms_n, ms_i, ms_l, ms_p, PX, w1 ()]
      refine ⟨⟨by omega, by omega⟩, ?_⟩
      refine ih (k + 1) (by omega) (by omega) _ ((fr.trans (f1.mono rfl)).setr rfl) (fun p hp => ?_)
      rw [ms_app, if_pos rfl]
      by_cases e : p = k
      · rw [if_pos e, e]; rfl
      · rw [if_neg e, f1 27 p rfl]
        exact hL p (by omega)
  -- what is read and told
  have loop2 : ∀ (σ1 : mM), Fr xwL xwT σ σ1 → EnX σ1 C w → ∀ m k : Nat, C.1 - k = m → k ≤ C.1 → ∀ (lo ll : Option mV) (σ' : mM), Fr [22, 25, 26] [] σ1 σ' → (∀ p, p < k → σ' 25 p = readP C w p ∧ σ' 26 p = tolP C w p) → At (d + 3) 95 3 [some (.inr (.inr 21)), some (.inr (.inr 34)), some (.inl (k : Int)), lo, ll] [] σ' K := by
    intro σ1 F1 E1 m
    induction m with
    | zero =>
      intro k hk hk2 lo ll σ' fr hL
      obtain rfl : k = C.1 := by omega
      have F : Fr xwL xwT σ σ' := F1.trans (fr.mono rfl)
      have hF' := hF.fr F rfl
      refine At.blk rfl rfl rfl fun sx => ?_
      simp (decide := true) only [RR, ms_app, toList_some, toList_none, if_true, if_false, true_and, and_true, cond_true, sm0, sm1, sm1l, sm2, lc_lt, lc_gt, lc_eq, Int.toNat_natCast, Int.reduceToNat, Nat.reduceAdd, Nat.reduceEqDiff, Int.reduceLT, Int.reduceEq, Int.reduceNeg, Int.reduceAdd, Int.reduceMul, Nat.reduceMul, ms_n, ms_i, ms_l, ms_p, PX, fxX hF', (hc.xw F).1]
      rw [if_neg (by omega)]
      refine At.blk rfl rfl rfl fun sx => ?_
      simp (decide := true) only [RR, ms_app, toList_some, toList_none, if_true, if_false, true_and, and_true, cond_true, sm0, sm1, sm1l, sm2, lc_lt, lc_gt, lc_eq, Int.toNat_natCast, Int.reduceToNat, Nat.reduceAdd, Nat.reduceEqDiff, Int.reduceLT, Int.reduceEq, Int.reduceNeg, Int.reduceAdd, Int.reduceMul, Nat.reduceMul, ms_n, ms_i, ms_l, ms_p, PX]
      exact loop3 lo ll σ' F (E1.cg (fr 21 4 rfl) (fr.row 23 rfl) (fr.row 24 rfl)) hL C.1 0 rfl (by omega) σ' Fr.same (fun p hp => by omega)
    | succ m ih =>
      intro k hk hk2 lo ll σ' fr hL
      have hk3 : k < C.1 := by omega
      have F : Fr xwL xwT σ σ' := F1.trans (fr.mono rfl)
      have hF' := hF.fr F rfl
      have hcF := hc.xw F
      have hsF := hs.xw34 F
      have w1 : Unit → w32 ((k : Int) + 1) = ((k + 1 : Nat) : Int) := fun _ => by rw [w32_small (by omega) (by omega)]; omega
      obtain ⟨hty, h45, -⟩ := hC.2.2.2 0 (by decide)
      have act : ActR (σ' 36 k) (w.2.2.2.2 k) := (hsF.2.2.2 k hk3).2.2.2
      have df : bit (σ' 34 4) k = w.2.2.2.1 k := (hsF.2.2.2 k hk3).2.2.1
      have ai : σ' 35 k = w.2.1 k := (hsF.2.2.2 k hk3).1
      have db := pw_128 n7 hsF.2.2.1
      have dv := (hw.2 k hk3).2.2.1
      have seven : ∀ (σ2 : mM), Fr [22, 25] [] σ' σ2 → σ2 25 k = readP C w k → (∀ p, p ≠ k → σ2 25 p = σ' 25 p) → At (d + 3) 95 7 [some (.inr (.inr 21)), some (.inr (.inr 34)), some (.inl (k : Int)), some (.inl (σ' 36 k)), ll] [] σ2 K := by
        intro σ2 f2 r2 o2
        have G : Fr [22, 25, 26] [] σ1 σ2 := fr.trans (f2.mono rfl)
        have hF2 := hF.fr (F1.trans (G.mono rfl)) rfl
        have eleven : ∀ (v : Int) (l2 : Option mV), v = tolP C w k → At (d + 3) 95 11 [some (.inr (.inr 21)), some (.inr (.inr 34)), some (.inl (k : Int)), some (.inl (σ' 36 k)), l2] [.inl v, .inl (k : Int), .inr (.inr 26)] σ2 K := by
          intro v l2 hv
          refine At.blk rfl rfl rfl fun sx => ?_
          simp (decide := true) only [RR, ms_app, toList_some, toList_none, if_true, if_false, true_and, and_true, cond_true, sm0, sm1, sm1l, sm2, lc_lt, lc_gt, lc_eq, Int.toNat_natCast, Int.reduceToNat, Nat.reduceAdd, Nat.reduceEqDiff, Int.reduceLT, Int.reduceEq, Int.reduceNeg, Int.reduceAdd, Int.reduceMul, Nat.reduceMul, ms_n, ms_i, ms_l, ms_p, PX, w1 ()]
          refine ⟨⟨by omega, by omega⟩, ?_⟩
          refine ih (k + 1) (by omega) (by omega) _ _ _ (G.setr rfl) (fun p hp => ?_)
          rw [ms_row (by decide), ms_app, if_pos rfl]
          by_cases e : p = k
          · subst e
            rw [if_pos rfl]
            exact ⟨r2, hv⟩
          · rw [if_neg e, o2 p e, f2 26 p rfl]
            exact hL p (by omega)
        unfold tolP at eleven
        have nine0 : (w.2.2.2.1 k = 1 ∨ readP C w k = -1) → At (d + 3) 95 9 [some (.inr (.inr 21)), some (.inr (.inr 34)), some (.inl (k : Int)), some (.inl (σ' 36 k)), ll] [.inl 0] σ2 K := by
          intro hh
          refine At.blk rfl rfl rfl fun sx => ?_
          simp (decide := true) only [RR, ms_app, toList_some, toList_none, if_true, if_false, true_and, and_true, cond_true, sm0, sm1, sm1l, sm2, lc_lt, lc_gt, lc_eq, Int.toNat_natCast, Int.reduceToNat, Nat.reduceAdd, Nat.reduceEqDiff, Int.reduceLT, Int.reduceEq, Int.reduceNeg, Int.reduceAdd, Int.reduceMul, Nat.reduceMul, ms_n, ms_i, ms_l, ms_p, PX, fxX hF2]
          refine At.blk rfl rfl rfl fun sx => ?_
          simp (decide := true) only [RR, ms_app, toList_some, toList_none, if_true, if_false, true_and, and_true, cond_true, sm0, sm1, sm1l, sm2, lc_lt, lc_gt, lc_eq, Int.toNat_natCast, Int.reduceToNat, Nat.reduceAdd, Nat.reduceEqDiff, Int.reduceLT, Int.reduceEq, Int.reduceNeg, Int.reduceAdd, Int.reduceMul, Nat.reduceMul, ms_n, ms_i, ms_l, ms_p, PX, fxX hF2, (f2 35 k rfl).trans ai]
          refine ⟨⟨by omega, by omega⟩, ?_⟩
          exact eleven _ _ (by rw [if_pos hh])
        have bi : i_and (i_shr (σ2 34 4) (k : Int)) 1 = w.2.2.2.1 k := by
          rw [f2 34 4 rfl, i_bit db.1 (by omega) (by omega), Int.toNat_natCast, df]
        refine At.blk rfl rfl rfl fun sx => ?_
        simp (decide := true) only [RR, ms_app, toList_some, toList_none, if_true, if_false, true_and, and_true, cond_true, sm0, sm1, sm1l, sm2, lc_lt, lc_gt, lc_eq, Int.toNat_natCast, Int.reduceToNat, Nat.reduceAdd, Nat.reduceEqDiff, Int.reduceLT, Int.reduceEq, Int.reduceNeg, Int.reduceAdd, Int.reduceMul, Nat.reduceMul, ms_n, ms_i, ms_l, ms_p, PX, fxX hF2, r2, bi]
        refine ⟨⟨by omega, by omega⟩, ?_⟩
        by_cases h1 : readP C w k = -1
        · rw [if_pos h1]
          refine At.blk rfl rfl rfl fun sx => ?_
          simp (decide := true) only [RR, ms_app, toList_some, toList_none, if_true, if_false, true_and, and_true, cond_true, sm0, sm1, sm1l, sm2, lc_lt, lc_gt, lc_eq, Int.toNat_natCast, Int.reduceToNat, Nat.reduceAdd, Nat.reduceEqDiff, Int.reduceLT, Int.reduceEq, Int.reduceNeg, Int.reduceAdd, Int.reduceMul, Nat.reduceMul, ms_n, ms_i, ms_l, ms_p, PX]
          exact nine0 (Or.inr h1)
        · rw [if_neg h1]
          by_cases h2 : w.2.2.2.1 k = 0
          · rw [if_pos h2]
            refine At.blk rfl rfl rfl fun sx => ?_
            simp (decide := true) only [RR, ms_app, toList_some, toList_none, if_true, if_false, true_and, and_true, cond_true, sm0, sm1, sm1l, sm2, lc_lt, lc_gt, lc_eq, Int.toNat_natCast, Int.reduceToNat, Nat.reduceAdd, Nat.reduceEqDiff, Int.reduceLT, Int.reduceEq, Int.reduceNeg, Int.reduceAdd, Int.reduceMul, Nat.reduceMul, ms_n, ms_i, ms_l, ms_p, PX, fxX hF2, r2]
            refine ⟨⟨by omega, by omega⟩, ?_⟩
            refine eleven _ _ ?_
            rw [if_neg (fun h => by rcases h with h | h; omega; exact h1 h)]
          · rw [if_neg h2]
            refine At.blk rfl rfl rfl fun sx => ?_
            simp (decide := true) only [RR, ms_app, toList_some, toList_none, if_true, if_false, true_and, and_true, cond_true, sm0, sm1, sm1l, sm2, lc_lt, lc_gt, lc_eq, Int.toNat_natCast, Int.reduceToNat, Nat.reduceAdd, Nat.reduceEqDiff, Int.reduceLT, Int.reduceEq, Int.reduceNeg, Int.reduceAdd, Int.reduceMul, Nat.reduceMul, ms_n, ms_i, ms_l, ms_p, PX]
            exact nine0 (Or.inl (by omega))
      unfold readP at seven
      refine At.blk rfl rfl rfl fun sx => ?_
      simp (decide := true) only [RR, ms_app, toList_some, toList_none, if_true, if_false, true_and, and_true, cond_true, sm0, sm1, sm1l, sm2, lc_lt, lc_gt, lc_eq, Int.toNat_natCast, Int.reduceToNat, Nat.reduceAdd, Nat.reduceEqDiff, Int.reduceLT, Int.reduceEq, Int.reduceNeg, Int.reduceAdd, Int.reduceMul, Nat.reduceMul, ms_n, ms_i, ms_l, ms_p, PX, fxX hF', hcF.1]
      rw [if_pos (by omega)]
      refine ⟨⟨by omega, by omega⟩, ?_⟩
      by_cases h1 : σ' 36 k = 255
      · rw [if_pos h1]
        have hm : w.2.2.2.2 k = -1 := by unfold ActR at act; omega
        refine cal_of rfl (x_valueb (r := 0) (t := fun _ => 0) hF' hC hw hk3 hcF.1 (hcF.2.2.1 k hk3) hsF (E1.cg (fr 21 4 rfl) (fr.row 23 rfl) (fr.row 24 rfl)) (fun h => absurd h (h45 (by decide))) (by decide) (by decide) (hcF.2.2.2 0 (by decide)) hty (fun σ2 f2 => ?_))
        simp (decide := true) only [RR, ms_app, toList_some, toList_none, if_true, if_false, true_and, and_true, cond_true, sm0, sm1, sm1l, sm2, lc_lt, lc_gt, lc_eq, Int.toNat_natCast, Int.reduceToNat, Nat.reduceAdd, Nat.reduceEqDiff, Int.reduceLT, Int.reduceEq, Int.reduceNeg, Int.reduceAdd, Int.reduceMul, Nat.reduceMul, ms_n, ms_i, ms_l, ms_p, PX]
        refine cal_of rfl (x_airOf ?_)
        simp (decide := true) only [RR, ms_app, toList_some, toList_none, if_true, if_false, true_and, and_true, cond_true, sm0, sm1, sm1l, sm2, lc_lt, lc_gt, lc_eq, Int.toNat_natCast, Int.reduceToNat, Nat.reduceAdd, Nat.reduceEqDiff, Int.reduceLT, Int.reduceEq, Int.reduceNeg, Int.reduceAdd, Int.reduceMul, Nat.reduceMul, ms_n, ms_i, ms_l, ms_p, PX]
        refine ⟨⟨by omega, by omega⟩, ?_⟩
        refine seven _ ((f2.mono rfl).setr rfl) ?_ (fun p hp => ?_)
        · rw [ms_app, if_pos rfl, if_pos rfl, if_neg (by omega), if_pos hm]; rfl
        · rw [ms_app, if_pos rfl, if_neg hp, f2 25 p rfl]
      · rw [if_neg h1]
        refine At.blk rfl rfl rfl fun sx => ?_
        simp (decide := true) only [RR, ms_app, toList_some, toList_none, if_true, if_false, true_and, and_true, cond_true, sm0, sm1, sm1l, sm2, lc_lt, lc_gt, lc_eq, Int.toNat_natCast, Int.reduceToNat, Nat.reduceAdd, Nat.reduceEqDiff, Int.reduceLT, Int.reduceEq, Int.reduceNeg, Int.reduceAdd, Int.reduceMul, Nat.reduceMul, ms_n, ms_i, ms_l, ms_p, PX, fxX hF']
        by_cases h2 : σ' 36 k = 254
        · rw [if_pos h2]
          have hm : w.2.2.2.2 k = -2 := by unfold ActR at act; omega
          refine At.blk rfl rfl rfl fun sx => ?_
          simp (decide := true) only [RR, ms_app, toList_some, toList_none, if_true, if_false, true_and, and_true, cond_true, sm0, sm1, sm1l, sm2, lc_lt, lc_gt, lc_eq, Int.toNat_natCast, Int.reduceToNat, Nat.reduceAdd, Nat.reduceEqDiff, Int.reduceLT, Int.reduceEq, Int.reduceNeg, Int.reduceAdd, Int.reduceMul, Nat.reduceMul, ms_n, ms_i, ms_l, ms_p, PX]
          refine ⟨⟨by omega, by omega⟩, ?_⟩
          refine seven _ (Fr.same.setr rfl) ?_ (fun p hp => ?_)
          · rw [ms_app, if_pos rfl, if_pos rfl, if_pos hm]
          · rw [ms_app, if_pos rfl, if_neg hp]
        · rw [if_neg h2]
          have hm : w.2.2.2.2 k = σ' 36 k ∧ 0 ≤ σ' 36 k := by unfold ActR at act; omega
          refine At.blk rfl rfl rfl fun sx => ?_
          simp (decide := true) only [RR, ms_app, toList_some, toList_none, if_true, if_false, true_and, and_true, cond_true, sm0, sm1, sm1l, sm2, lc_lt, lc_gt, lc_eq, Int.toNat_natCast, Int.reduceToNat, Nat.reduceAdd, Nat.reduceEqDiff, Int.reduceLT, Int.reduceEq, Int.reduceNeg, Int.reduceAdd, Int.reduceMul, Nat.reduceMul, ms_n, ms_i, ms_l, ms_p, PX]
          refine At.blk rfl rfl rfl fun sx => ?_
          simp (decide := true) only [RR, ms_app, toList_some, toList_none, if_true, if_false, true_and, and_true, cond_true, sm0, sm1, sm1l, sm2, lc_lt, lc_gt, lc_eq, Int.toNat_natCast, Int.reduceToNat, Nat.reduceAdd, Nat.reduceEqDiff, Int.reduceLT, Int.reduceEq, Int.reduceNeg, Int.reduceAdd, Int.reduceMul, Nat.reduceMul, ms_n, ms_i, ms_l, ms_p, PX]
          refine ⟨⟨by omega, by omega⟩, ?_⟩
          refine seven _ (Fr.same.setr rfl) ?_ (fun p hp => ?_)
          · rw [ms_app, if_pos rfl, if_pos rfl, if_neg (by omega), if_neg (by omega), hm.1]
          · rw [ms_app, if_pos rfl, if_neg hp]
  -- around
  have loop1 : ∀ m k : Nat, C.1 - k = m → k ≤ C.1 → ∀ (σ' : mM), Fr [23, 24] [(21, 4)] σ σ' → σ' 21 4 = galesP C w → (∀ p, p < k → σ' 23 p = around C w true p ∧ σ' 24 p = around C w false p) → At (d + 3) 95 1 [some (.inr (.inr 21)), some (.inr (.inr 34)), some (.inl (k : Int)), none, none] [] σ' K := by
    intro m
    induction m with
    | zero =>
      intro k hk hk2 σ' fr hg hL
      obtain rfl : k = C.1 := by omega
      have F : Fr xwL xwT σ σ' := fr.mono rfl
      have hF' := hF.fr F rfl
      refine At.blk rfl rfl rfl fun sx => ?_
      simp (decide := true) only [RR, ms_app, toList_some, toList_none, if_true, if_false, true_and, and_true, cond_true, sm0, sm1, sm1l, sm2, lc_lt, lc_gt, lc_eq, Int.toNat_natCast, Int.reduceToNat, Nat.reduceAdd, Nat.reduceEqDiff, Int.reduceLT, Int.reduceEq, Int.reduceNeg, Int.reduceAdd, Int.reduceMul, Nat.reduceMul, ms_n, ms_i, ms_l, ms_p, PX, fxX hF', (hc.xw F).1]
      rw [if_neg (by omega)]
      refine At.blk rfl rfl rfl fun sx => ?_
      simp (decide := true) only [RR, ms_app, toList_some, toList_none, if_true, if_false, true_and, and_true, cond_true, sm0, sm1, sm1l, sm2, lc_lt, lc_gt, lc_eq, Int.toNat_natCast, Int.reduceToNat, Nat.reduceAdd, Nat.reduceEqDiff, Int.reduceLT, Int.reduceEq, Int.reduceNeg, Int.reduceAdd, Int.reduceMul, Nat.reduceMul, ms_n, ms_i, ms_l, ms_p, PX]
      exact loop2 σ' F ⟨hg, hL⟩ C.1 0 rfl (by omega) _ _ σ' Fr.same (fun p hp => by omega)
    | succ m ih =>
      intro k hk hk2 σ' fr hg hL
      have hk3 : k < C.1 := by omega
      have F : Fr xwL xwT σ σ' := fr.mono rfl
      have hF' := hF.fr F rfl
      have w1 : Unit → w32 ((k : Int) + 1) = ((k + 1 : Nat) : Int) := fun _ => by rw [w32_small (by omega) (by omega)]; omega
      refine At.blk rfl rfl rfl fun sx => ?_
      simp (decide := true) only [RR, ms_app, toList_some, toList_none, if_true, if_false, true_and, and_true, cond_true, sm0, sm1, sm1l, sm2, lc_lt, lc_gt, lc_eq, Int.toNat_natCast, Int.reduceToNat, Nat.reduceAdd, Nat.reduceEqDiff, Int.reduceLT, Int.reduceEq, Int.reduceNeg, Int.reduceAdd, Int.reduceMul, Nat.reduceMul, ms_n, ms_i, ms_l, ms_p, PX, fxX hF', (hc.xw F).1]
      rw [if_pos (by omega)]
      refine cal_of rfl (x_lookAround34 hF' hC hw hk3 (hc.xw F) (hs.xw34 F) ?_)
      simp (decide := true) only [RR, ms_app, toList_some, toList_none, if_true, if_false, true_and, and_true, cond_true, sm0, sm1, sm1l, sm2, lc_lt, lc_gt, lc_eq, Int.toNat_natCast, Int.reduceToNat, Nat.reduceAdd, Nat.reduceEqDiff, Int.reduceLT, Int.reduceEq, Int.reduceNeg, Int.reduceAdd, Int.reduceMul, Nat.reduceMul, ms_n, ms_i, ms_l, ms_p, PX, w1 ()]
      refine ih (k + 1) (by omega) (by omega) _ ((fr.setr rfl).setr rfl) hg (fun p hp => ?_)
      rw [ms_row (by decide), ms_app, if_pos rfl, ms_app, if_pos rfl]
      by_cases e : p = k
      · subst e
        rw [if_pos rfl, if_pos rfl]
        exact ⟨rfl, rfl⟩
      · rw [if_neg e, if_neg e]
        exact hL p (by omega)
  refine At.blk rfl rfl rfl fun sx => ?_
  simp (decide := true) only [RR, ms_app, toList_some, toList_none, if_true, if_false, true_and, and_true, cond_true, sm0, sm1, sm1l, sm2, lc_lt, lc_gt, lc_eq, Int.toNat_natCast, Int.reduceToNat, Nat.reduceAdd, Nat.reduceEqDiff, Int.reduceLT, Int.reduceEq, Int.reduceNeg, Int.reduceAdd, Int.reduceMul, Nat.reduceMul, ms_n, ms_i, ms_l, ms_p, PX, fxX hF]
  refine cal_of rfl (x_gales34 hF hC hc hs ?_)
  simp (decide := true) only [RR, ms_app, toList_some, toList_none, if_true, if_false, true_and, and_true, cond_true, sm0, sm1, sm1l, sm2, lc_lt, lc_gt, lc_eq, Int.toNat_natCast, Int.reduceToNat, Nat.reduceAdd, Nat.reduceEqDiff, Int.reduceLT, Int.reduceEq, Int.reduceNeg, Int.reduceAdd, Int.reduceMul, Nat.reduceMul, ms_n, ms_i, ms_l, ms_p, PX]
  exact loop1 C.1 0 rfl (by omega) _ (Fr.same.set rfl) rfl (fun p hp => by omega)
end
