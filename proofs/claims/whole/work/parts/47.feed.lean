/-! feed -/
/-- m bytes behind those that are there; a, f: where the length stands; r: the row -/
def feedM (a f r : Nat) (byt : Nat → Int) (σ : mM) (m : Nat) : mM := fun q k =>
  if q = a then (if k = f then σ a f + m else σ q k) else if q = r then (if (σ a f).toNat ≤ k ∧ k < (σ a f).toNat + m then byt (k - (σ a f).toNat) else σ q k) else σ q k
theorem feedM_push {a f r : Nat} {byt : Nat → Int} {σ : mM} {m : Nat} {x : Int} (hr : r ≠ a) (h0 : 0 ≤ σ a f) (hx : x = byt m) : mj_set (mj_set (feedM a f r byt σ m) r (σ a f + m).toNat x) a f (σ a f + m + 1) = feedM a f r byt σ (m + 1) := by
  funext q k
  unfold mj_set feedM
  by_cases e1 : q = a
  · subst e1
    rw [if_pos rfl, if_pos rfl]
    by_cases e2 : k = f
    · rw [if_pos e2, if_pos e2]; omega
    · rw [if_neg e2, if_neg e2, if_neg (Ne.symm hr), if_pos rfl, if_neg e2]
  · rw [if_neg e1, if_neg e1, if_neg e1]
    by_cases e3 : q = r
    · subst e3
      rw [if_pos rfl, if_pos rfl, if_pos rfl]
      by_cases e4 : k = (σ a f + m).toNat
      · rw [if_pos e4, if_pos (by omega), hx]
        congr 1
        omega
      · rw [if_neg e4]
        by_cases e5 : (σ a f).toNat ≤ k ∧ k < (σ a f).toNat + m
        · rw [if_pos e5, if_pos (by omega)]
        · rw [if_neg e5, if_neg (by omega)]
    · rw [if_neg e3, if_neg e3, if_neg e3]
theorem feedM0 {a f r : Nat} {byt : Nat → Int} {σ : mM} : feedM a f r byt σ 0 = σ := by
  funext q k
  unfold feedM
  by_cases e1 : q = a
  · subst e1
    rw [if_pos rfl]
    by_cases e2 : k = f
    · rw [if_pos e2, e2]; omega
    · rw [if_neg e2]
  · rw [if_neg e1]
    split
    · rw [if_neg (by omega)]
    · rfl
theorem feedM_len {a f r : Nat} {byt : Nat → Int} {σ : mM} {m : Nat} : feedM a f r byt σ m a f = σ a f + m := by
  unfold feedM; rw [if_pos rfl, if_pos rfl]
theorem feedM_fix {a f r : Nat} {byt : Nat → Int} {σ : mM} {m : Nat} (h : Fix σ) (h1 : fixS a f = false) (h2 : ∀ k, fixS r k = false) : Fix (feedM a f r byt σ m) := by
  refine h.row (fun q k hq hs => ?_)
  unfold feedM
  split
  · rename_i e; subst e
    split
    · rename_i e; subst e; rw [h1] at hs; cases hs
    · rfl
  · split
    · rename_i e; subst e; rw [h2] at hs; cases hs
    · rfl
theorem w32_small {x : Int} (h1 : -2147483648 ≤ x) (h2 : x < 2147483648) : w32 x = x := by
  unfold w32
  exact Int.bmod_eq_of_le (by omega) (by omega)
theorem x_put {d m : Nat} {σ : mM} {byt : Nat → Int} {v : Int} {K : Option mV → mM → Prop} (hF : Fix σ) (h0 : 0 ≤ σ 1 1) (h1 : σ 1 1 + m ≤ 1596) (hb : v / 2 ^ 24 % 256 = byt m ∧ v / 2 ^ 16 % 256 = byt (m + 1) ∧ v / 2 ^ 8 % 256 = byt (m + 2) ∧ v / 2 ^ 0 % 256 = byt (m + 3)) (hK : K none (feedM 1 1 2 byt σ (m + 4))) : Mt (d + 1) 81 [.inr (.inr 1), .inl v] (feedM 1 1 2 byt σ m) K := by
  refine Mt.go (lv := [some (.inr (.inr 1)), some (.inl v), none]) rfl rfl rfl ?_
  refine At.blk rfl rfl rfl fun sx => ?_
  simp (decide := true) only [RR, ms_app, toList_some, toList_none, if_true, if_false, true_and, and_true, cond_true, sm0, sm1, sm1l, sm2, lc_lt, lc_gt, lc_eq, Int.toNat_natCast, Int.reduceToNat, Nat.reduceAdd, Nat.reduceEqDiff, Int.reduceLT, Int.reduceEq, Int.reduceNeg, Int.reduceAdd, Int.reduceMul, Nat.reduceMul, ms_n, ms_i, ms_l, ms_p, PX]
  have one : ∀ (j s : Nat) , j < 4 → s ≤ 24 → v / 2 ^ s % 256 = byt (m + j) → At d 81 2 [some (.inr (.inr 1)), some (.inl v), some (.inl (s : Int))] [] (feedM 1 1 2 byt σ (m + (j + 1))) K → At d 81 1 [some (.inr (.inr 1)), some (.inl v), some (.inl (s : Int))] [] (feedM 1 1 2 byt σ (m + j)) K := by
    intro j s hj hs hbb hgo
    have hFm := feedM_fix (a := 1) (f := 1) (r := 2) (byt := byt) (m := m + j) hF rfl (fun _ => rfl)
    refine At.blk rfl rfl rfl fun sx => ?_
    simp (decide := true) only [RR, ms_app, toList_some, toList_none, if_true, if_false, true_and, and_true, cond_true, sm0, sm1, sm1l, sm2, lc_lt, lc_gt, lc_eq, Int.toNat_natCast, Int.reduceToNat, Nat.reduceAdd, Nat.reduceEqDiff, Int.reduceLT, Int.reduceEq, Int.reduceNeg, Int.reduceAdd, Int.reduceMul, Nat.reduceMul, ms_n, ms_i, ms_l, ms_p, PX, fxX hFm, feedM_len]
    rw [if_neg (by omega), if_pos (by omega)]
    refine ⟨⟨by omega, by omega⟩, ?_⟩
    rw [ushr_and hs, hbb, w32_small (by omega) (by omega)]
    rw [feedM_push (by decide) h0 rfl]
    exact hgo
  refine one 0 24 (by omega) (by omega) hb.1 ?_
  refine At.blk rfl rfl rfl fun sx => ?_
  simp (decide := true) only [RR, ms_app, toList_some, toList_none, if_true, if_false, true_and, and_true, cond_true, sm0, sm1, sm1l, sm2, lc_lt, lc_gt, lc_eq, Int.toNat_natCast, Int.reduceToNat, Nat.reduceAdd, Nat.reduceEqDiff, Int.reduceLT, Int.reduceEq, Int.reduceNeg, Int.reduceAdd, Int.reduceMul, Nat.reduceMul, ms_n, ms_i, ms_l, ms_p, PX]
  refine one 1 16 (by omega) (by omega) hb.2.1 ?_
  refine At.blk rfl rfl rfl fun sx => ?_
  simp (decide := true) only [RR, ms_app, toList_some, toList_none, if_true, if_false, true_and, and_true, cond_true, sm0, sm1, sm1l, sm2, lc_lt, lc_gt, lc_eq, Int.toNat_natCast, Int.reduceToNat, Nat.reduceAdd, Nat.reduceEqDiff, Int.reduceLT, Int.reduceEq, Int.reduceNeg, Int.reduceAdd, Int.reduceMul, Nat.reduceMul, ms_n, ms_i, ms_l, ms_p, PX]
  refine one 2 8 (by omega) (by omega) hb.2.2.1 ?_
  refine At.blk rfl rfl rfl fun sx => ?_
  simp (decide := true) only [RR, ms_app, toList_some, toList_none, if_true, if_false, true_and, and_true, cond_true, sm0, sm1, sm1l, sm2, lc_lt, lc_gt, lc_eq, Int.toNat_natCast, Int.reduceToNat, Nat.reduceAdd, Nat.reduceEqDiff, Int.reduceLT, Int.reduceEq, Int.reduceNeg, Int.reduceAdd, Int.reduceMul, Nat.reduceMul, ms_n, ms_i, ms_l, ms_p, PX]
  refine one 3 0 (by omega) (by omega) hb.2.2.2 ?_
  refine At.blk rfl rfl rfl fun sx => ?_
  simp (decide := true) only [RR, ms_app, toList_some, toList_none, if_true, if_false, true_and, and_true, cond_true, sm0, sm1, sm1l, sm2, lc_lt, lc_gt, lc_eq, Int.toNat_natCast, Int.reduceToNat, Nat.reduceAdd, Nat.reduceEqDiff, Int.reduceLT, Int.reduceEq, Int.reduceNeg, Int.reduceAdd, Int.reduceMul, Nat.reduceMul, ms_n, ms_i, ms_l, ms_p, PX]
  refine At.blk rfl rfl rfl fun sx => ?_
  simp (decide := true) only [RR, ms_app, toList_some, toList_none, if_true, if_false, true_and, and_true, cond_true, sm0, sm1, sm1l, sm2, lc_lt, lc_gt, lc_eq, Int.toNat_natCast, Int.reduceToNat, Nat.reduceAdd, Nat.reduceEqDiff, Int.reduceLT, Int.reduceEq, Int.reduceNeg, Int.reduceAdd, Int.reduceMul, Nat.reduceMul, ms_n, ms_i, ms_l, ms_p, PX]
  refine At.blk rfl rfl rfl fun sx => ?_
  simp (decide := true) only [RR, ms_app, toList_some, toList_none, if_true, if_false, true_and, and_true, cond_true, sm0, sm1, sm1l, sm2, lc_lt, lc_gt, lc_eq, Int.toNat_natCast, Int.reduceToNat, Nat.reduceAdd, Nat.reduceEqDiff, Int.reduceLT, Int.reduceEq, Int.reduceNeg, Int.reduceAdd, Int.reduceMul, Nat.reduceMul, ms_n, ms_i, ms_l, ms_p, PX]
  exact hK
/-- the bytes of five numbers -/
def fiv (a b c d e : Int) (i : Nat) : Int := if i = 0 then a else if i = 1 then b else if i = 2 then c else if i = 3 then d else e
def bytF (a b c d e : Int) (j : Nat) : Int := fiv a b c d e (j / 4) / (2 : Int) ^ (8 * (3 - j % 4)) % 256
theorem x_feed {d : Nat} {σ : mM} {a b c e g : Int} {K : Option mV → mM → Prop} (hF : Fix σ) (h0 : 0 ≤ σ 1 1) (h9 : σ 1 1 ≤ 1600) (hK1 : 1580 < σ 1 1 → K (some (.inl (-1))) (mj_set σ 145 0 (w32 (σ 145 0 + 1)))) (hK2 : σ 1 1 ≤ 1580 → K (some (.inl (σ 1 1 + 20))) (feedM 1 1 2 (bytF a b c e g) σ 20)) : Mt (d + 2) 106 [.inr (.inr 0), .inl a, .inl b, .inl c, .inl e, .inl g] σ K := by
  refine Mt.go (lv := [some (.inr (.inr 0)), some (.inl a), some (.inl b), some (.inl c), some (.inl e), some (.inl g)]) rfl rfl rfl ?_
  refine At.blk rfl rfl rfl fun sx => ?_
  simp (decide := true) only [RR, ms_app, toList_some, toList_none, if_true, if_false, true_and, and_true, cond_true, sm0, sm1, sm1l, sm2, lc_lt, lc_gt, lc_eq, Int.toNat_natCast, Int.reduceToNat, Nat.reduceAdd, Nat.reduceEqDiff, Int.reduceLT, Int.reduceEq, Int.reduceNeg, Int.reduceAdd, Int.reduceMul, Nat.reduceMul, ms_n, ms_i, ms_l, ms_p, PX, fxX hF]
  rw [w32_small (by omega) (by omega)]
  by_cases hh : 1580 < σ 1 1
  · rw [if_pos (by omega)]
    refine cal_of rfl (x_refuse (k := 0) hF (by decide) ?_)
    simp (decide := true) only [RR, ms_app, toList_some, toList_none, if_true, if_false, true_and, and_true, cond_true, sm0, sm1, sm1l, sm2, lc_lt, lc_gt, lc_eq, Int.toNat_natCast, Int.reduceToNat, Nat.reduceAdd, Nat.reduceEqDiff, Int.reduceLT, Int.reduceEq, Int.reduceNeg, Int.reduceAdd, Int.reduceMul, Nat.reduceMul, ms_n, ms_i, ms_l, ms_p, PX]
    exact hK1 hh
  · rw [if_neg (by omega)]
    have hFm : ∀ m, Fix (feedM 1 1 2 (bytF a b c e g) σ m) := fun m => feedM_fix hF rfl (fun _ => rfl)
    refine At.blk rfl rfl rfl fun sx => ?_
    rw [← feedM0 (a := 1) (f := 1) (r := 2) (byt := bytF a b c e g) (σ := σ)]
    simp (decide := true) only [RR, ms_app, toList_some, toList_none, if_true, if_false, true_and, and_true, cond_true, sm0, sm1, sm1l, sm2, lc_lt, lc_gt, lc_eq, Int.toNat_natCast, Int.reduceToNat, Nat.reduceAdd, Nat.reduceEqDiff, Int.reduceLT, Int.reduceEq, Int.reduceNeg, Int.reduceAdd, Int.reduceMul, Nat.reduceMul, ms_n, ms_i, ms_l, ms_p, PX, fxX (hFm 0)]
    refine cal_of rfl (x_put (m := 0) hF h0 (by omega) ⟨rfl, rfl, rfl, rfl⟩ ?_)
    simp (decide := true) only [RR, ms_app, toList_some, toList_none, if_true, if_false, true_and, and_true, cond_true, sm0, sm1, sm1l, sm2, lc_lt, lc_gt, lc_eq, Int.toNat_natCast, Int.reduceToNat, Nat.reduceAdd, Nat.reduceEqDiff, Int.reduceLT, Int.reduceEq, Int.reduceNeg, Int.reduceAdd, Int.reduceMul, Nat.reduceMul, ms_n, ms_i, ms_l, ms_p, PX, fxX (hFm 4)]
    refine cal_of rfl (x_put (m := 4) hF h0 (by omega) ⟨rfl, rfl, rfl, rfl⟩ ?_)
    simp (decide := true) only [RR, ms_app, toList_some, toList_none, if_true, if_false, true_and, and_true, cond_true, sm0, sm1, sm1l, sm2, lc_lt, lc_gt, lc_eq, Int.toNat_natCast, Int.reduceToNat, Nat.reduceAdd, Nat.reduceEqDiff, Int.reduceLT, Int.reduceEq, Int.reduceNeg, Int.reduceAdd, Int.reduceMul, Nat.reduceMul, ms_n, ms_i, ms_l, ms_p, PX, fxX (hFm 8)]
    refine cal_of rfl (x_put (m := 8) hF h0 (by omega) ⟨rfl, rfl, rfl, rfl⟩ ?_)
    simp (decide := true) only [RR, ms_app, toList_some, toList_none, if_true, if_false, true_and, and_true, cond_true, sm0, sm1, sm1l, sm2, lc_lt, lc_gt, lc_eq, Int.toNat_natCast, Int.reduceToNat, Nat.reduceAdd, Nat.reduceEqDiff, Int.reduceLT, Int.reduceEq, Int.reduceNeg, Int.reduceAdd, Int.reduceMul, Nat.reduceMul, ms_n, ms_i, ms_l, ms_p, PX, fxX (hFm 12)]
    refine cal_of rfl (x_put (m := 12) hF h0 (by omega) ⟨rfl, rfl, rfl, rfl⟩ ?_)
    simp (decide := true) only [RR, ms_app, toList_some, toList_none, if_true, if_false, true_and, and_true, cond_true, sm0, sm1, sm1l, sm2, lc_lt, lc_gt, lc_eq, Int.toNat_natCast, Int.reduceToNat, Nat.reduceAdd, Nat.reduceEqDiff, Int.reduceLT, Int.reduceEq, Int.reduceNeg, Int.reduceAdd, Int.reduceMul, Nat.reduceMul, ms_n, ms_i, ms_l, ms_p, PX, fxX (hFm 16)]
    refine cal_of rfl (x_put (m := 16) hF h0 (by omega) ⟨rfl, rfl, rfl, rfl⟩ ?_)
    simp (decide := true) only [RR, ms_app, toList_some, toList_none, if_true, if_false, true_and, and_true, cond_true, sm0, sm1, sm1l, sm2, lc_lt, lc_gt, lc_eq, Int.toNat_natCast, Int.reduceToNat, Nat.reduceAdd, Nat.reduceEqDiff, Int.reduceLT, Int.reduceEq, Int.reduceNeg, Int.reduceAdd, Int.reduceMul, Nat.reduceMul, ms_n, ms_i, ms_l, ms_p, PX, fxX (hFm 20), feedM_len]
    exact hK2 (by omega)
theorem m_feed {d : Nat} {σ : mM} {a b c e g : Int} {K : Option mV → mM → Prop} (ia : inR a) (ib : inR b) (ic : inR c) (ie : inR e) (ig : inR g) (hF : Fix σ) (h0 : 0 ≤ σ 146 1) (h9 : σ 146 1 ≤ 1600) (hK1 : 1580 < σ 146 1 → K (some (.inl (-1))) (mj_set σ 148 0 (w32 (σ 148 0 + 1)))) (hK2 : σ 146 1 ≤ 1580 → K (some (.inl (σ 146 1 + 20))) (feedM 146 1 147 (bytF a b c e g) σ 20)) : Mt (d + 1) 153 [.inr (.inr 146), .inl a, .inl b, .inl c, .inl e, .inl g] σ K := by
  refine Mt.go (lv := [some (.inr (.inr 146)), some (.inl a), some (.inl b), some (.inl c), some (.inl e), some (.inl g), none, none]) rfl rfl rfl ?_
  refine At.blk rfl rfl rfl fun sx => ?_
  simp (decide := true) only [RR, ms_app, toList_some, toList_none, if_true, if_false, true_and, and_true, cond_true, sm0, sm1, sm1l, sm2, lc_lt, lc_gt, lc_eq, Int.toNat_natCast, Int.reduceToNat, Nat.reduceAdd, Nat.reduceEqDiff, Int.reduceLT, Int.reduceEq, Int.reduceNeg, Int.reduceAdd, Int.reduceMul, Nat.reduceMul, ms_n, ms_i, ms_l, ms_p, PM, fxM hF]
  rw [w32_small (by omega) (by omega)]
  by_cases hh : 1580 < σ 146 1
  · rw [if_pos (by omega)]
    exact hK1 hh
  · rw [if_neg (by omega)]
    have hFm : ∀ m, Fix (feedM 146 1 147 (bytF a b c e g) σ m) := fun m => feedM_fix hF rfl (fun _ => rfl)
    rw [← feedM0 (a := 146) (f := 1) (r := 147) (byt := bytF a b c e g) (σ := σ)]
    refine At.blk rfl rfl rfl fun sx => ?_
    simp (decide := true) only [RR, ms_app, toList_some, toList_none, if_true, if_false, true_and, and_true, cond_true, sm0, sm1, sm1l, sm2, lc_lt, lc_gt, lc_eq, Int.toNat_natCast, Int.reduceToNat, Nat.reduceAdd, Nat.reduceEqDiff, Int.reduceLT, Int.reduceEq, Int.reduceNeg, Int.reduceAdd, Int.reduceMul, Nat.reduceMul, ms_n, ms_i, ms_l, ms_p, PM]
    have loop : ∀ n j : Nat, 20 - j = n → j ≤ 20 → ∀ o : Option mV, At d 153 2 [some (.inr (.inr 146)), some (.inl a), some (.inl b), some (.inl c), some (.inl e), some (.inl g), some (.inl (j : Int)), o] [] (feedM 146 1 147 (bytF a b c e g) σ j) K := by
      intro n
      induction n with
      | zero =>
        intro j hj hj2 o
        obtain rfl : j = 20 := by omega
        refine At.blk rfl rfl rfl fun sx => ?_
        simp (decide := true) only [RR, ms_app, toList_some, toList_none, if_true, if_false, true_and, and_true, cond_true, sm0, sm1, sm1l, sm2, lc_lt, lc_gt, lc_eq, Int.toNat_natCast, Int.reduceToNat, Nat.reduceAdd, Nat.reduceEqDiff, Int.reduceLT, Int.reduceEq, Int.reduceNeg, Int.reduceAdd, Int.reduceMul, Nat.reduceMul, ms_n, ms_i, ms_l, ms_p, PM]
        refine At.blk rfl rfl rfl fun sx => ?_
        simp (decide := true) only [RR, ms_app, toList_some, toList_none, if_true, if_false, true_and, and_true, cond_true, sm0, sm1, sm1l, sm2, lc_lt, lc_gt, lc_eq, Int.toNat_natCast, Int.reduceToNat, Nat.reduceAdd, Nat.reduceEqDiff, Int.reduceLT, Int.reduceEq, Int.reduceNeg, Int.reduceAdd, Int.reduceMul, Nat.reduceMul, ms_n, ms_i, ms_l, ms_p, PM, fxM (hFm 20), feedM_len]
        exact hK2 (by omega)
      | succ n ih =>
        intro j hj hj2 o
        have sh : w32 (8 * w32 (3 - Int.tmod (j : Int) 4)) = ((8 * (3 - j % 4) : Nat) : Int) := by
          rw [Int.tmod_eq_emod_of_nonneg (by omega), w32_small (x := 3 - (j : Int) % 4) (by omega) (by omega), w32_small (by omega) (by omega)]
          omega
        have go : ∀ w : Int, inR w → fiv a b c e g (j / 4) = w → At d 153 7 [some (.inr (.inr 146)), some (.inl a), some (.inl b), some (.inl c), some (.inl e), some (.inl g), some (.inl (j : Int)), o] [.inl w] (feedM 146 1 147 (bytF a b c e g) σ j) K := by
          intro w iw hw
          refine At.blk rfl rfl rfl fun sx => ?_
          simp (decide := true) only [RR, ms_app, toList_some, toList_none, if_true, if_false, true_and, and_true, cond_true, sm0, sm1, sm1l, sm2, lc_lt, lc_gt, lc_eq, Int.toNat_natCast, Int.reduceToNat, Nat.reduceAdd, Nat.reduceEqDiff, Int.reduceLT, Int.reduceEq, Int.reduceNeg, Int.reduceAdd, Int.reduceMul, Nat.reduceMul, ms_n, ms_i, ms_l, ms_p, PM, fxM (hFm j), feedM_len, sh]
          refine ⟨⟨by omega, by omega⟩, ?_⟩
          rw [i_shr_div iw.1 iw.2 (by omega), i_and255, w32_small (x := σ 146 1 + j + 1) (by omega) (by omega), w32_small (x := (j : Int) + 1) (by omega) (by omega)]
          rw [feedM_push (by decide) h0 (by rw [← hw]; rfl)]
          exact ih (j + 1) (by omega) (by omega) _
        refine At.blk rfl rfl rfl fun sx => ?_
        simp (decide := true) only [RR, ms_app, toList_some, toList_none, if_true, if_false, true_and, and_true, cond_true, sm0, sm1, sm1l, sm2, lc_lt, lc_gt, lc_eq, Int.toNat_natCast, Int.reduceToNat, Nat.reduceAdd, Nat.reduceEqDiff, Int.reduceLT, Int.reduceEq, Int.reduceNeg, Int.reduceAdd, Int.reduceMul, Nat.reduceMul, ms_n, ms_i, ms_l, ms_p, PM]
        rw [if_pos (by omega)]
        split
        · exact go a ia (by unfold fiv; rw [if_pos (by omega)])
        · refine At.blk rfl rfl rfl fun sx => ?_
          simp (decide := true) only [RR, ms_app, toList_some, toList_none, if_true, if_false, true_and, and_true, cond_true, sm0, sm1, sm1l, sm2, lc_lt, lc_gt, lc_eq, Int.toNat_natCast, Int.reduceToNat, Nat.reduceAdd, Nat.reduceEqDiff, Int.reduceLT, Int.reduceEq, Int.reduceNeg, Int.reduceAdd, Int.reduceMul, Nat.reduceMul, ms_n, ms_i, ms_l, ms_p, PM]
          split
          · exact go b ib (by unfold fiv; rw [if_neg (by omega), if_pos (by omega)])
          · refine At.blk rfl rfl rfl fun sx => ?_
            simp (decide := true) only [RR, ms_app, toList_some, toList_none, if_true, if_false, true_and, and_true, cond_true, sm0, sm1, sm1l, sm2, lc_lt, lc_gt, lc_eq, Int.toNat_natCast, Int.reduceToNat, Nat.reduceAdd, Nat.reduceEqDiff, Int.reduceLT, Int.reduceEq, Int.reduceNeg, Int.reduceAdd, Int.reduceMul, Nat.reduceMul, ms_n, ms_i, ms_l, ms_p, PM]
            split
            · exact go c ic (by unfold fiv; rw [if_neg (by omega), if_neg (by omega), if_pos (by omega)])
            · refine At.blk rfl rfl rfl fun sx => ?_
              simp (decide := true) only [RR, ms_app, toList_some, toList_none, if_true, if_false, true_and, and_true, cond_true, sm0, sm1, sm1l, sm2, lc_lt, lc_gt, lc_eq, Int.toNat_natCast, Int.reduceToNat, Nat.reduceAdd, Nat.reduceEqDiff, Int.reduceLT, Int.reduceEq, Int.reduceNeg, Int.reduceAdd, Int.reduceMul, Nat.reduceMul, ms_n, ms_i, ms_l, ms_p, PM]
              split
              · exact go e ie (by unfold fiv; rw [if_neg (by omega), if_neg (by omega), if_neg (by omega), if_pos (by omega)])
              · refine At.blk rfl rfl rfl fun sx => ?_
                simp (decide := true) only [RR, ms_app, toList_some, toList_none, if_true, if_false, true_and, and_true, cond_true, sm0, sm1, sm1l, sm2, lc_lt, lc_gt, lc_eq, Int.toNat_natCast, Int.reduceToNat, Nat.reduceAdd, Nat.reduceEqDiff, Int.reduceLT, Int.reduceEq, Int.reduceNeg, Int.reduceAdd, Int.reduceMul, Nat.reduceMul, ms_n, ms_i, ms_l, ms_p, PM]
                exact go g ig (by unfold fiv; rw [if_neg (by omega), if_neg (by omega), if_neg (by omega), if_neg (by omega)])
    exact loop 20 0 rfl (by omega) none
/-- the invariant behind feed -/
theorem feedM_row {a f r : Nat} {byt : Nat → Int} {σ : mM} {m q : Nat} (h1 : q ≠ a) (h2 : q ≠ r) : feedM a f r byt σ m q = σ q := by
  funext k
  unfold feedM
  rw [if_neg h1, if_neg h2]
theorem feedM_oth {a f r : Nat} {byt : Nat → Int} {σ : mM} {m q k : Nat} (h1 : ¬(q = a ∧ k = f)) (h2 : q ≠ r) : feedM a f r byt σ m q k = σ q k := by
  unfold feedM
  split
  · rw [if_neg (fun e => h1 ⟨by assumption, e⟩)]
  · first | rfl | rw [if_neg h2]
theorem feedM_in {a f r : Nat} {byt : Nat → Int} {σ : mM} {m k : Nat} (h : r ≠ a) (h2 : (k : Int) < σ a f + m) (h3 : 0 ≤ σ a f) : feedM a f r byt σ m r k = if (σ a f).toNat ≤ k then byt (k - (σ a f).toNat) else σ r k := by
  unfold feedM
  rw [if_neg h, if_pos rfl]
  by_cases e : (σ a f).toNat ≤ k
  · rw [if_pos e, if_pos (by omega)]
  · rw [if_neg e, if_neg (by omega)]
theorem bytF_byte (a b c d e : Int) (j : Nat) : 0 ≤ bytF a b c d e j ∧ bytF a b c d e j ≤ 255 := by
  unfold bytF
  omega
theorem p_feed {σ : mM} (h : Inv σ) (a b c e g : Int) (ia : inR a) (ib : inR b) (ic : inR c) (ie : inR e) (ig : inR g) : PairI Inv 106 153 [.inl a, .inl b, .inl c, .inl e, .inl g] σ := by
  have hF := h.1
  obtain ⟨t1, t2, t3⟩ := h.2.1
  refine x_feed hF t2.1 t2.2 (fun hb => ⟨_, rfl, ?_⟩) (fun hb => ⟨_, rfl, ?_⟩)
  · refine m_feed ia ib ic ie ig (hF.set rfl) (by show 0 ≤ σ 146 1; omega) (by show σ 146 1 ≤ 1600; omega) (fun _ => ?_) (fun hc => ?_)
    · exact ⟨rfl, h.ref (by decide)⟩
    · exfalso
      have hc : σ 146 1 ≤ 1580 := hc
      omega
  · refine m_feed ia ib ic ie ig (feedM_fix hF rfl (fun _ => rfl)) (by show 0 ≤ σ 146 1; omega) (by show σ 146 1 ≤ 1600; omega) (fun hc => ?_) (fun _ => ?_)
    · exfalso
      have hc : 1580 < σ 146 1 := hc
      omega
    · obtain ⟨hF, hT, hR, hf, hZ, hP, hS, hC, hN, hk2, hU, hth⟩ := h
      have e1 : ∀ q, q ≠ 1 → q ≠ 2 → q ≠ 146 → q ≠ 147 → feedM 146 1 147 (bytF a b c e g) (feedM 1 1 2 (bytF a b c e g) σ 20) 20 q = σ q := fun q h1 h2 h3 h4 => (feedM_row h3 h4).trans (feedM_row h1 h2)
      have e2 : ∀ k, k ≠ 1 → feedM 146 1 147 (bytF a b c e g) (feedM 1 1 2 (bytF a b c e g) σ 20) 20 146 k = σ 146 k := fun k hk => (feedM_oth (by omega) (by decide)).trans (feedM_oth (by omega) (by decide))
      have g1 : feedM 1 1 2 (bytF a b c e g) σ 20 146 1 = σ 146 1 := rfl
      have l1 : feedM 146 1 147 (bytF a b c e g) (feedM 1 1 2 (bytF a b c e g) σ 20) 20 146 1 = σ 146 1 + 20 := rfl
      have l2 : feedM 146 1 147 (bytF a b c e g) (feedM 1 1 2 (bytF a b c e g) σ 20) 20 1 1 = σ 1 1 + 20 := rfl
      refine ⟨by rw [g1, t1], feedM_fix (feedM_fix hF rfl (fun _ => rfl)) rfl (fun _ => rfl), ?_, hR.cg (e1 _ (by decide) (by decide) (by decide) (by decide)) (e1 _ (by decide) (by decide) (by decide) (by decide)), hf.cg rfl rfl rfl rfl, hZ.cg rfl rfl, hP.cg rfl rfl rfl rfl, hS.cg rfl rfl rfl rfl rfl, hC.cg rfl rfl rfl rfl rfl rfl rfl rfl rfl rfl rfl rfl rfl, hN.cg rfl rfl rfl rfl rfl, hk2.cg rfl rfl rfl, hU.cg rfl rfl rfl rfl rfl rfl (fun q h1 h2 => e1 q (by omega) (by omega) (by omega) (by omega)), hth⟩
      refine ⟨by rw [l1, l2, t1], by rw [l2]; omega, fun k hk => ?_⟩
      rw [l2] at hk
      have m1 : feedM 146 1 147 (bytF a b c e g) (feedM 1 1 2 (bytF a b c e g) σ 20) 20 147 k = if (σ 1 1).toNat ≤ k then bytF a b c e g (k - (σ 1 1).toNat) else σ 147 k := by
        have := feedM_in (a := 146) (f := 1) (r := 147) (byt := bytF a b c e g) (σ := feedM 1 1 2 (bytF a b c e g) σ 20) (m := 20) (k := k) (by decide) (by rw [g1, t1]; exact hk) (by rw [g1, t1]; exact t2.1)
        rw [g1, t1] at this
        exact this
      have m2 : feedM 146 1 147 (bytF a b c e g) (feedM 1 1 2 (bytF a b c e g) σ 20) 20 2 k = if (σ 1 1).toNat ≤ k then bytF a b c e g (k - (σ 1 1).toNat) else σ 2 k := feedM_in (a := 1) (f := 1) (r := 2) (by decide) hk t2.1
      rw [m1, m2]
      split
      · exact ⟨rfl, bytF_byte _ _ _ _ _ _⟩
      · exact t3 k (by omega)
