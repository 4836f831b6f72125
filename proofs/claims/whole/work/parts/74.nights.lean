/-! bits joined -/
theorem i_or_nat {a b : Nat} (ha : a < 2 ^ 31) (hb : b < 2 ^ 31) : i_or (a : Int) (b : Int) = ((a ||| b : Nat) : Int) := by
  unfold i_or
  have h1 : (Int32.ofInt (a : Int) ||| Int32.ofInt (b : Int)).toBitVec.toNat = a ||| b := by
    have e : (Int32.ofInt (a : Int) ||| Int32.ofInt (b : Int)).toBitVec = (Int32.ofInt (a : Int)).toBitVec ||| (Int32.ofInt (b : Int)).toBitVec := rfl
    have ea := tbn (a : Int)
    have eb := tbn (b : Int)
    rw [e, BitVec.toNat_or, show (Int32.ofInt (a : Int)).toBitVec.toNat = a by omega, show (Int32.ofInt (b : Int)).toBitVec.toNat = b by omega]
  have h2 : a ||| b < 2 ^ 31 := Nat.or_lt_two_pow ha hb
  have h3 : (Int32.ofInt (a : Int) ||| Int32.ofInt (b : Int)).toInt = (Int32.ofInt (a : Int) ||| Int32.ofInt (b : Int)).toBitVec.toInt := rfl
  rw [h3, BitVec.toInt_eq_toNat_of_lt (by rw [h1]; omega), h1]
theorem i_or_add {k x b : Nat} (h : b < 2 ^ k) (hx : 2 ^ k * x + b < 2 ^ 31) : i_or ((2 ^ k * x : Nat) : Int) (b : Int) = ((2 ^ k * x + b : Nat) : Int) := by
  rw [i_or_nat (by omega) (by omega), Nat.two_pow_add_eq_or_of_lt h]
theorem i_or_add2 {k x b : Nat} (h : b < 2 ^ k) (hx : 2 ^ k * x + b < 2 ^ 31) : i_or (b : Int) ((2 ^ k * x : Nat) : Int) = ((2 ^ k * x + b : Nat) : Int) := by
  rw [i_or_nat (by omega) (by omega), Nat.or_comm, Nat.two_pow_add_eq_or_of_lt h]
theorem i_shl_nat {a k : Nat} (hk : k < 32) (h : a * 2 ^ k < 2 ^ 31) : i_shl (a : Int) (k : Int) = ((a * 2 ^ k : Nat) : Int) := by
  unfold i_shl
  have h1 := pk_shl (Int32.ofInt (a : Int)) (Int32.ofInt (k : Int) &&& 31) k (sh_amt k hk)
  have ea := tbn (a : Int)
  have h0 : a ≤ a * 2 ^ k := Nat.le_mul_of_pos_right a (Nat.pow_pos (by decide))
  rw [show (Int32.ofInt (a : Int)).toBitVec.toNat = a by omega, Nat.mod_eq_of_lt (by omega)] at h1
  have h3 : (Int32.ofInt (a : Int) <<< (Int32.ofInt (k : Int) &&& 31)).toInt = (Int32.ofInt (a : Int) <<< (Int32.ofInt (k : Int) &&& 31)).toBitVec.toInt := rfl
  rw [h3, BitVec.toInt_eq_toNat_of_lt (by rw [h1]; omega), h1]
theorem Fr.cpy {L : List Nat} {T : List (Nat × Nat)} {σ σ1 : mM} {q0 sp q1 dp n : Nat} (h : Fr L T σ σ1) (hp : L.elem q1 = true) : Fr L T σ (mj_cpy σ1 q0 sp q1 dp n) := by
  intro q k hn
  rw [mc_app]
  by_cases e1 : q = q1
  · subst e1; rw [hp] at hn; cases hn
  · rw [if_neg e1]; exact h q k hn
section
variable {d : Nat} {σ : mM} {K : Option mV → mM → Prop}
theorem x_add {l : Kp} {n a : Int} {p : Nat} (hF : Fix σ) (hl : KpX σ l) (hv : l.length ≤ 40) (hn : 0 ≤ n ∧ n ≤ 999) (hp : p ≤ 6) (ha : 0 ≤ a ∧ a ≤ 20) (hK : ∀ σ', Fr [40] [(39, 1)] σ σ' → KpX σ' (addK l (n, (p : Int), a)) → K none σ') : Mt (d + 1) 12 [.inr (.inr 39), .inl n, .inl (p : Int), .inl a] σ K := by
  refine Mt.go (lv := [some (.inr (.inr 39)), some (.inl n), some (.inl (p : Int)), some (.inl a)]) rfl rfl rfl ?_
  obtain ⟨N, rfl⟩ := Int.eq_ofNat_of_zero_le hn.1
  obtain ⟨A, rfl⟩ := Int.eq_ofNat_of_zero_le ha.1
  have e1 : i_or (i_or (i_shl (N : Int) 8) (i_shl (p : Int) 5)) (A : Int) = 256 * (N : Int) + 32 * (p : Int) + (A : Int) := by
    rw [show (8 : Int) = ((8 : Nat) : Int) from rfl, show (5 : Int) = ((5 : Nat) : Int) from rfl, i_shl_nat (by decide) (by omega), i_shl_nat (by decide) (by omega)]
    rw [show N * 2 ^ 8 = 2 ^ 8 * N by omega, i_or_add (k := 8) (by omega) (by omega), show 2 ^ 8 * N + p * 2 ^ 5 = 2 ^ 5 * (8 * N + p) by omega, i_or_add (k := 5) (by omega) (by omega)]
    omega
  have hlen := addK_len (x := ((N : Int), (p : Int), (A : Int))) hv
  have one : ∀ (σ1 : mM) (m : Nat), Fr [40] [(39, 1)] σ σ1 → σ1 39 1 = (m : Int) → m < 40 → m + 1 = (addK l ((N : Int), (p : Int), (A : Int))).length → (∀ (j : Nat) (h : j < (addK l ((N : Int), (p : Int), (A : Int))).length), j < m → σ1 40 j = 256 * (addK l ((N : Int), (p : Int), (A : Int)))[j].1 + 32 * (addK l ((N : Int), (p : Int), (A : Int)))[j].2.1 + (addK l ((N : Int), (p : Int), (A : Int)))[j].2.2) → (∀ (h : m < (addK l ((N : Int), (p : Int), (A : Int))).length), (addK l ((N : Int), (p : Int), (A : Int)))[m] = ((N : Int), (p : Int), (A : Int))) → At d 12 1 [some (.inr (.inr 39)), some (.inl (N : Int)), some (.inl (p : Int)), some (.inl (A : Int))] [] σ1 K := by
    intro σ1 m f1 em hm hl2 hrow hlast
    have hF1 := hF.fr f1 rfl
    refine At.blk rfl rfl rfl fun sx => ?_
    simp (decide := true) only [RR, ms_app, toList_some, toList_none, if_true, if_false, true_and, and_true, cond_true, sm0, sm1, sm1l, sm2, lc_lt, lc_gt, lc_eq, Int.toNat_natCast, Int.reduceToNat, Nat.reduceAdd, Nat.reduceEqDiff, Int.reduceLT, Int.reduceEq, Int.reduceNeg, Int.reduceAdd, Int.reduceMul, Nat.reduceMul, ms_n, ms_i, ms_l, ms_p, PX, fxX hF1, em, e1]
    refine ⟨⟨by omega, by omega⟩, ?_⟩
    rw [w32_small (by omega) (by omega)]
    refine hK _ ((f1.setr rfl).set rfl) ⟨by rw [ms_app, if_pos rfl, if_pos rfl]; omega, fun j hj => ?_⟩
    rw [ms_row (by decide), ms_app, if_pos rfl]
    by_cases e : j = m
    · subst e
      rw [if_pos rfl, hlast hj]
    · rw [if_neg e]; exact hrow j hj (by omega)
  refine At.blk rfl rfl rfl fun sx => ?_
  simp (decide := true) only [RR, ms_app, toList_some, toList_none, if_true, if_false, true_and, and_true, cond_true, sm0, sm1, sm1l, sm2, lc_lt, lc_gt, lc_eq, Int.toNat_natCast, Int.reduceToNat, Nat.reduceAdd, Nat.reduceEqDiff, Int.reduceLT, Int.reduceEq, Int.reduceNeg, Int.reduceAdd, Int.reduceMul, Nat.reduceMul, ms_n, ms_i, ms_l, ms_p, PX, fxX hF, hl.1]
  by_cases h40 : l.length = 40
  · rw [if_pos (by omega)]
    rw [if_pos h40] at hlen
    have e9 : w32 (mj_cpy σ 40 1 40 0 39 39 1 - 1) = 39 := by
      rw [mc_app, if_neg (by decide), hl.1, h40]; rfl
    simp (decide := true) only [RR, ms_app, toList_some, toList_none, if_true, if_false, true_and, and_true, cond_true, sm0, sm1, sm1l, sm2, lc_lt, lc_gt, lc_eq, Int.toNat_natCast, Int.reduceToNat, Nat.reduceAdd, Nat.reduceEqDiff, Int.reduceLT, Int.reduceEq, Int.reduceNeg, Int.reduceAdd, Int.reduceMul, Nat.reduceMul, ms_n, ms_i, ms_l, ms_p, PX, Bool.and_true, e9]
    refine one _ 39 ((Fr.same.cpy rfl).set rfl) rfl (by omega) hlen.symm (fun j hj hj2 => ?_) (fun h => ?_)
    · rw [addK_get hv j hj, dif_pos h40, dif_pos (by omega), ms_row (by decide), mc_app, if_pos rfl, if_pos (by omega), Nat.sub_zero, Nat.add_comm 1 j]
      exact hl.2 (j + 1) (by omega)
    · rw [addK_get hv 39 h, dif_pos h40, dif_neg (by omega)]
  · rw [if_neg (by omega)]
    rw [if_neg h40] at hlen
    refine one σ l.length Fr.same hl.1 (by omega) hlen.symm (fun j hj hj2 => ?_) (fun h => ?_)
    · rw [addK_get hv j hj, dif_neg h40, dif_pos hj2]
      exact hl.2 j hj2
    · rw [addK_get hv _ h, dif_neg h40, dif_neg (by omega)]
def xnL : List Nat := [22, 23, 24, 25, 26, 27, 29, 30, 40]
def xnT : List (Nat × Nat) := [(21, 4), (28, 2), (39, 1)]
theorem CtX.xn {C : Ct} {σ' : mM} (h : CtX σ C) (fr : Fr xnL xnT σ σ') : CtX σ' C := h.cg (fr.row 3 rfl) (fr.row 6 rfl) (fr.row 8 rfl) (fr.row 9 rfl) (fr.row 10 rfl)
theorem x_passNight {C : Ct} {w : Sk} {l : Kp} (hF : Fix σ) (hC : CtV C) (hw : SkV C w) (h9 : 0 ≤ w.1 ∧ w.1 ≤ 999) (hc : CtX σ C) (hs : SkX σ 28 C w) (hl : KpX σ l) (hv : KpV l) (hK : ∀ σ', Fr xnL xnT σ σ' → SkX σ' 28 C (nxC C w) → KpX σ' (kpN C w l C.1) → K (some (.inl (roseP C w))) σ') : Mt (d + 5) 142 [.inr (.inr 0)] σ K := by
  refine Mt.go (lv := [some (.inr (.inr 0)), none]) rfl rfl rfl ?_
  have n7 := hC.1
  refine At.blk rfl rfl rfl fun sx => ?_
  simp (decide := true) only [RR, ms_app, toList_some, toList_none, if_true, if_false, true_and, and_true, cond_true, sm0, sm1, sm1l, sm2, lc_lt, lc_gt, lc_eq, Int.toNat_natCast, Int.reduceToNat, Nat.reduceAdd, Nat.reduceEqDiff, Int.reduceLT, Int.reduceEq, Int.reduceNeg, Int.reduceAdd, Int.reduceMul, Nat.reduceMul, ms_n, ms_i, ms_l, ms_p, PX, fxX hF]
  refine cal_of rfl (x_foresee28 hF hC hw hc hs (fun σ0 f0 hE h0 => ?_))
  simp (decide := true) only [RR, ms_app, toList_some, toList_none, if_true, if_false, true_and, and_true, cond_true, sm0, sm1, sm1l, sm2, lc_lt, lc_gt, lc_eq, Int.toNat_natCast, Int.reduceToNat, Nat.reduceAdd, Nat.reduceEqDiff, Int.reduceLT, Int.reduceEq, Int.reduceNeg, Int.reduceAdd, Int.reduceMul, Nat.reduceMul, ms_n, ms_i, ms_l, ms_p, PX]
  have hF0 := hF.fr f0 rfl
  have loop : ∀ m k : Nat, C.1 - k = m → k ≤ C.1 → ∀ σ', Fr [40] [(39, 1)] σ0 σ' → KpX σ' (kpN C w l k) → At (d + 4) 142 1 [some (.inr (.inr 0)), some (.inl (k : Int))] [] σ' K := by
    intro m
    induction m with
    | zero =>
      intro k hk hk2 σ' fr hx
      obtain rfl : k = C.1 := by omega
      have F : Fr xnL xnT σ σ' := (f0.mono rfl).trans (fr.mono rfl)
      have hF' := hF.fr F rfl
      have e3 : σ' 3 4 = (C.1 : Int) := (F 3 4 rfl).trans hc.1
      refine At.blk rfl rfl rfl fun sx => ?_
      simp (decide := true) only [RR, ms_app, toList_some, toList_none, if_true, if_false, true_and, and_true, cond_true, sm0, sm1, sm1l, sm2, lc_lt, lc_gt, lc_eq, Int.toNat_natCast, Int.reduceToNat, Nat.reduceAdd, Nat.reduceEqDiff, Int.reduceLT, Int.reduceEq, Int.reduceNeg, Int.reduceAdd, Int.reduceMul, Nat.reduceMul, ms_n, ms_i, ms_l, ms_p, PX, fxX hF', e3]
      rw [if_neg (by omega)]
      refine At.blk rfl rfl rfl fun sx => ?_
      simp (decide := true) only [RR, ms_app, toList_some, toList_none, if_true, if_false, true_and, and_true, cond_true, sm0, sm1, sm1l, sm2, lc_lt, lc_gt, lc_eq, Int.toNat_natCast, Int.reduceToNat, Nat.reduceAdd, Nat.reduceEqDiff, Int.reduceLT, Int.reduceEq, Int.reduceNeg, Int.reduceAdd, Int.reduceMul, Nat.reduceMul, ms_n, ms_i, ms_l, ms_p, PX, fxX hF']
      have sx' : SkX σ' 28 C w := (hs.xw28 f0).cg (fr.row 28 rfl) (fr.row 29 rfl) (fr.row 30 rfl)
      refine cal_of rfl (x_pass28 hF' hC hw (hc.xn F) sx' (fun p hp => (fr 27 p rfl).trans (h0 p hp).2.2) (fun σ2 f2 s2 => ?_))
      simp (decide := true) only [RR, ms_app, toList_some, toList_none, if_true, if_false, true_and, and_true, cond_true, sm0, sm1, sm1l, sm2, lc_lt, lc_gt, lc_eq, Int.toNat_natCast, Int.reduceToNat, Nat.reduceAdd, Nat.reduceEqDiff, Int.reduceLT, Int.reduceEq, Int.reduceNeg, Int.reduceAdd, Int.reduceMul, Nat.reduceMul, ms_n, ms_i, ms_l, ms_p, PX]
      refine hK σ2 (F.trans (f2.mono rfl)) s2 ?_
      unfold KpX at *
      rw [f2 39 1 rfl, f2.row 40 rfl]
      exact hx
    | succ m ih =>
      intro k hk hk2 σ' fr hx
      have hk3 : k < C.1 := by omega
      have F : Fr xnL xnT σ σ' := (f0.mono rfl).trans (fr.mono rfl)
      have hF' := hF.fr F rfl
      have e3 : σ' 3 4 = (C.1 : Int) := (F 3 4 rfl).trans hc.1
      have e8 : σ' 3 8 = C.2.1 := (F 3 8 rfl).trans hc.2.1
      have eT : σ' 27 k = thnP C w k := (fr 27 k rfl).trans (h0 k hk3).2.2
      have eA : σ' 29 k = w.2.1 k := (fr 29 k rfl).trans ((f0 29 k rfl).trans (hs.2.2.2 k hk3).1)
      have eN : σ' 28 2 = w.1 := (fr 28 2 rfl).trans ((f0 28 2 rfl).trans hs.1)
      have w1 : Unit → w32 ((k : Int) + 1) = ((k + 1 : Nat) : Int) := fun _ => by rw [w32_small (by omega) (by omega)]; omega
      refine At.blk rfl rfl rfl fun sx => ?_
      simp (decide := true) only [RR, ms_app, toList_some, toList_none, if_true, if_false, true_and, and_true, cond_true, sm0, sm1, sm1l, sm2, lc_lt, lc_gt, lc_eq, Int.toNat_natCast, Int.reduceToNat, Nat.reduceAdd, Nat.reduceEqDiff, Int.reduceLT, Int.reduceEq, Int.reduceNeg, Int.reduceAdd, Int.reduceMul, Nat.reduceMul, ms_n, ms_i, ms_l, ms_p, PX, fxX hF', e3]
      rw [if_pos (by omega)]
      refine cal_of rfl (x_galeRises28 hF' (by omega) (fun hh => ?_) (fun hh => ?_))
      · rw [eA, e8, eT] at hh
        simp (decide := true) only [RR, ms_app, toList_some, toList_none, if_true, if_false, true_and, and_true, cond_true, sm0, sm1, sm1l, sm2, lc_lt, lc_gt, lc_eq, Int.toNat_natCast, Int.reduceToNat, Nat.reduceAdd, Nat.reduceEqDiff, Int.reduceLT, Int.reduceEq, Int.reduceNeg, Int.reduceAdd, Int.reduceMul, Nat.reduceMul, ms_n, ms_i, ms_l, ms_p, PX, fxX hF', eT, eN]
        refine ⟨⟨by omega, by omega⟩, ?_⟩
        refine cal_of rfl (x_add hF' hx (kpN_V hC h9 hv k (by omega)).1 h9 (by omega) cutA_le (fun σ2 f2 k2 => ?_))
        simp (decide := true) only [RR, ms_app, toList_some, toList_none, if_true, if_false, true_and, and_true, cond_true, sm0, sm1, sm1l, sm2, lc_lt, lc_gt, lc_eq, Int.toNat_natCast, Int.reduceToNat, Nat.reduceAdd, Nat.reduceEqDiff, Int.reduceLT, Int.reduceEq, Int.reduceNeg, Int.reduceAdd, Int.reduceMul, Nat.reduceMul, ms_n, ms_i, ms_l, ms_p, PX]
        refine At.blk rfl rfl rfl fun sx => ?_
        simp (decide := true) only [RR, ms_app, toList_some, toList_none, if_true, if_false, true_and, and_true, cond_true, sm0, sm1, sm1l, sm2, lc_lt, lc_gt, lc_eq, Int.toNat_natCast, Int.reduceToNat, Nat.reduceAdd, Nat.reduceEqDiff, Int.reduceLT, Int.reduceEq, Int.reduceNeg, Int.reduceAdd, Int.reduceMul, Nat.reduceMul, ms_n, ms_i, ms_l, ms_p, PX, w1 ()]
        refine ih (k + 1) (by omega) (by omega) σ2 (fr.trans f2) ?_
        unfold kpN
        rw [if_pos (show roseI C w k = 1 by unfold roseI; rw [if_pos hh])]
        exact k2
      · rw [eA, e8, eT] at hh
        simp (decide := true) only [RR, ms_app, toList_some, toList_none, if_true, if_false, true_and, and_true, cond_true, sm0, sm1, sm1l, sm2, lc_lt, lc_gt, lc_eq, Int.toNat_natCast, Int.reduceToNat, Nat.reduceAdd, Nat.reduceEqDiff, Int.reduceLT, Int.reduceEq, Int.reduceNeg, Int.reduceAdd, Int.reduceMul, Nat.reduceMul, ms_n, ms_i, ms_l, ms_p, PX]
        refine At.blk rfl rfl rfl fun sx => ?_
        simp (decide := true) only [RR, ms_app, toList_some, toList_none, if_true, if_false, true_and, and_true, cond_true, sm0, sm1, sm1l, sm2, lc_lt, lc_gt, lc_eq, Int.toNat_natCast, Int.reduceToNat, Nat.reduceAdd, Nat.reduceEqDiff, Int.reduceLT, Int.reduceEq, Int.reduceNeg, Int.reduceAdd, Int.reduceMul, Nat.reduceMul, ms_n, ms_i, ms_l, ms_p, PX, w1 ()]
        refine ih (k + 1) (by omega) (by omega) σ' fr ?_
        unfold kpN
        rw [if_neg (show ¬roseI C w k = 1 by unfold roseI; rw [if_neg hh]; decide)]
        exact hx
  refine loop C.1 0 rfl (by omega) σ0 Fr.same ?_
  unfold kpN
  unfold KpX at *
  rw [f0 39 1 rfl, f0.row 40 rfl]
  exact hl
end
