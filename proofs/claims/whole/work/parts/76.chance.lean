/-! chance -/
def drw (z : Int) : Int := (1103515245 * z + 12345) % 2147483648
theorem drw_le {z : Int} : 0 ≤ drw z ∧ drw z ≤ 2147483647 := by unfold drw; omega
theorem l_and31 {v : Int} (h0 : 0 ≤ v) (h1 : v < 9223372036854775808) : l_and v 2147483647 = v % 2147483648 := by
  obtain ⟨a, rfl⟩ := Int.eq_ofNat_of_zero_le h0
  unfold l_and
  have e : (Int64.ofInt (a : Int) &&& Int64.ofInt 2147483647).toBitVec = BitVec.ofInt 64 (a : Int) &&& BitVec.ofInt 64 2147483647 := rfl
  have n1 : (BitVec.ofInt 64 (a : Int)).toNat = a := by rw [BitVec.toNat_ofInt]; omega
  have n2 : (BitVec.ofInt 64 2147483647).toNat = 2 ^ 31 - 1 := by decide
  have h2 : (Int64.ofInt (a : Int) &&& Int64.ofInt 2147483647).toBitVec.toNat = a % 2 ^ 31 := by
    rw [e, BitVec.toNat_and, n1, n2, Nat.and_two_pow_sub_one_eq_mod]
  have h3 : (Int64.ofInt (a : Int) &&& Int64.ofInt 2147483647).toInt = (Int64.ofInt (a : Int) &&& Int64.ofInt 2147483647).toBitVec.toInt := rfl
  have h4 : a % 2 ^ 31 < 2 ^ 31 := Nat.mod_lt _ (by decide)
  rw [h3, BitVec.toInt_eq_toNat_of_lt (by rw [h2]; omega), h2]
  omega
def actW (w : Sk) (p : Nat) (v : Int) : Sk := (w.1, w.2.1, w.2.2.1, w.2.2.2.1, fun j => if j = p then v else w.2.2.2.2 j)
theorem actW_V {C : Ct} {w : Sk} {p : Nat} {v : Int} (h : SkV C w) (hv : -2 ≤ v ∧ v ≤ 20) : SkV C (actW w p v) := by
  refine ⟨h.1, fun j hj => ?_⟩
  obtain ⟨a1, a2, a3, a4⟩ := h.2 j hj
  refine ⟨a1, a2, a3, ?_⟩
  show -2 ≤ (if j = p then v else w.2.2.2.2 j) ∧ (if j = p then v else w.2.2.2.2 j) ≤ 20
  split
  · exact hv
  · exact a4
def slZ (C : Ct) (s z : Int) : Int := if drw z / 64 % 100 < s ∧ 0 < C.1 then drw (drw (drw z)) else drw z
def slW (C : Ct) (s z : Int) (w : Sk) : Sk := if drw z / 64 % 100 < s ∧ 0 < C.1 then actW w (drw (drw z) / 64 % (C.1 : Int)).toNat (drw (drw (drw z)) / 64 % 21) else w
def slI (C : Ct) (s z : Int) : Int := if drw z / 64 % 100 < s ∧ 0 < C.1 then 1 else 0
def chZ (C : Ct) (s z : Int) : Nat → Int
  | 0 => z
  | k + 1 => slZ C s (chZ C s z k)
def chW (C : Ct) (s z : Int) (w : Sk) : Nat → Sk
  | 0 => w
  | k + 1 => nxM C (slW C s (chZ C s z k) (chW C s z w k))
def chL (C : Ct) (s z : Int) (w : Sk) (l : Kp) : Nat → Kp
  | 0 => l
  | k + 1 => kpN C (slW C s (chZ C s z k) (chW C s z w k)) (chL C s z w l k) C.1
def chS (C : Ct) (s z : Int) (k : Nat) : Int := sumN (fun j => slI C s (chZ C s z j)) k
theorem slW_night {C : Ct} {s z : Int} {w : Sk} : (slW C s z w).1 = w.1 := by unfold slW; split <;> rfl
theorem slW_V {C : Ct} {s z : Int} {w : Sk} (h : SkV C w) : SkV C (slW C s z w) := by
  unfold slW
  split
  · exact actW_V h (by omega)
  · exact h
theorem chW_night {C : Ct} {s z : Int} {w : Sk} : ∀ k : Nat, (chW C s z w k).1 = w.1 + k
  | 0 => by simp [chW]
  | k + 1 => by
    show (slW C s (chZ C s z k) (chW C s z w k)).1 + 1 = _
    rw [slW_night, chW_night k]; omega
theorem chW_V {C : Ct} {s z : Int} {w : Sk} (h : SkV C w) : ∀ k : Nat, w.1 + k ≤ 5000 → SkV C (chW C s z w k)
  | 0, _ => h
  | k + 1, hk => by
    have := h.1
    refine SkV.nx (slW_V (chW_V h k (by omega))) ?_
    rw [slW_night, chW_night k]; omega
theorem chZ_le {C : Ct} {s z : Int} (h : 0 ≤ z ∧ z ≤ 2147483647) : ∀ k : Nat, 0 ≤ chZ C s z k ∧ chZ C s z k ≤ 2147483647
  | 0 => h
  | k + 1 => by
    show 0 ≤ slZ C s (chZ C s z k) ∧ slZ C s (chZ C s z k) ≤ 2147483647
    unfold slZ
    split <;> exact drw_le
theorem chL_V {C : Ct} {s z : Int} {w : Sk} {l : Kp} (hC : CtV C) (h0 : 0 ≤ w.1) (hl : KpV l) : ∀ k : Nat, w.1 + k ≤ 1000 → KpV (chL C s z w l k)
  | 0, _ => hl
  | k + 1, h => kpN_V hC (by rw [slW_night, chW_night]; omega) (chL_V hC h0 hl k (by omega)) C.1 (Nat.le_refl _)
theorem slI_le {C : Ct} {s z : Int} : 0 ≤ slI C s z ∧ slI C s z ≤ 1 := by unfold slI; split <;> omega
section
variable {d : Nat} {σ : mM} {K : Option mV → mM → Prop}
theorem x_draw {m : Int} (hF : Fix σ) (hz : 0 ≤ σ 0 13 ∧ σ 0 13 ≤ 2147483647) (hm : 0 < m) (hK : K (some (.inl (drw (σ 0 13) / 64 % m))) (mj_set σ 0 13 (drw (σ 0 13)))) : Mt (d + 1) 144 [.inr (.inr 0), .inl m] σ K := by
  refine Mt.go (lv := [some (.inr (.inr 0)), some (.inl m)]) rfl rfl rfl ?_
  have b := drw_le (z := σ 0 13)
  have e1 : Unit → w32 (l_and (w64 (w64 (1103515245 * σ 0 13) + 12345)) 2147483647) = drw (σ 0 13) := fun _ => by
    rw [w64_small (x := 1103515245 * σ 0 13) (by omega) (by omega), w64_small (by omega) (by omega), l_and31 (by omega) (by omega), w32_small (by omega) (by omega)]
    rfl
  have e2 : Unit → w32 ((drw (σ 0 13)).tdiv 64) = drw (σ 0 13) / 64 := fun _ => by
    rw [Int.tdiv_eq_ediv_of_nonneg b.1, w32_small (by omega) (by omega)]
  have e3 : (drw (σ 0 13) / 64).tmod m = drw (σ 0 13) / 64 % m := Int.tmod_eq_emod_of_nonneg (by omega)
  refine At.blk rfl rfl rfl fun sx => ?_
  simp (decide := true) only [RR, ms_app, toList_some, toList_none, if_true, if_false, true_and, and_true, cond_true, sm0, sm1, sm1l, sm2, lc_lt, lc_gt, lc_eq, Int.toNat_natCast, Int.reduceToNat, Nat.reduceAdd, Nat.reduceEqDiff, Int.reduceLT, Int.reduceEq, Int.reduceNeg, Int.reduceAdd, Int.reduceMul, Nat.reduceMul, ms_n, ms_i, ms_l, ms_p, PX, e1 ()]
  rw [if_pos hm]
  simp (decide := true) only [RR, ms_app, toList_some, toList_none, if_true, if_false, true_and, and_true, cond_true, sm0, sm1, sm1l, sm2, lc_lt, lc_gt, lc_eq, Int.toNat_natCast, Int.reduceToNat, Nat.reduceAdd, Nat.reduceEqDiff, Int.reduceLT, Int.reduceEq, Int.reduceNeg, Int.reduceAdd, Int.reduceMul, Nat.reduceMul, ms_n, ms_i, ms_l, ms_p, PX, e2 (), e3]
  refine ⟨by omega, ?_⟩
  refine At.blk rfl rfl rfl fun sx => ?_
  simp (decide := true) only [RR, ms_app, toList_some, toList_none, if_true, if_false, true_and, and_true, cond_true, sm0, sm1, sm1l, sm2, lc_lt, lc_gt, lc_eq, Int.toNat_natCast, Int.reduceToNat, Nat.reduceAdd, Nat.reduceEqDiff, Int.reduceLT, Int.reduceEq, Int.reduceNeg, Int.reduceAdd, Int.reduceMul, Nat.reduceMul, ms_n, ms_i, ms_l, ms_p, PX]
  exact hK
theorem m_drawOf {m : Int} (hz : 0 ≤ σ 146 67 ∧ σ 146 67 ≤ 2147483647) (hm : 0 < m) (hm2 : m ≤ 100) (hK : K (some (.inl (drw (σ 146 67) / 64 % m))) (mj_set σ 146 67 (drw (σ 146 67)))) : Mt (d + 1) 235 [.inr (.inr 146), .inl m] σ K := by
  refine Mt.go (lv := [some (.inr (.inr 146)), some (.inl m)]) rfl rfl rfl ?_
  have b := drw_le (z := σ 146 67)
  have e1 : (w64 (w64 (1103515245 * σ 146 67) + 12345)).tmod 2147483648 = drw (σ 146 67) := by
    rw [w64_small (x := 1103515245 * σ 146 67) (by omega) (by omega), w64_small (by omega) (by omega), Int.tmod_eq_emod_of_nonneg (by omega)]
    rfl
  have e2 : Unit → w64 ((drw (σ 146 67)).tdiv 64) = drw (σ 146 67) / 64 := fun _ => by
    rw [Int.tdiv_eq_ediv_of_nonneg b.1, w64_small (by omega) (by omega)]
  have hb : 0 ≤ drw (σ 146 67) / 64 % m ∧ drw (σ 146 67) / 64 % m < m := ⟨Int.emod_nonneg _ (by omega), Int.emod_lt_of_pos _ hm⟩
  have e3 : Unit → w32 ((drw (σ 146 67) / 64).tmod m) = drw (σ 146 67) / 64 % m := fun _ => by
    rw [Int.tmod_eq_emod_of_nonneg (by omega), w32_small (by omega) (by omega)]
  refine At.blk rfl rfl rfl fun sx => ?_
  simp (decide := true) only [RR, ms_app, toList_some, toList_none, if_true, if_false, true_and, and_true, cond_true, sm0, sm1, sm1l, sm2, lc_lt, lc_gt, lc_eq, Int.toNat_natCast, Int.reduceToNat, Nat.reduceAdd, Nat.reduceEqDiff, Int.reduceLT, Int.reduceEq, Int.reduceNeg, Int.reduceAdd, Int.reduceMul, Nat.reduceMul, ms_n, ms_i, ms_l, ms_p, PM, e1]
  simp (decide := true) only [RR, ms_app, toList_some, toList_none, if_true, if_false, true_and, and_true, cond_true, sm0, sm1, sm1l, sm2, lc_lt, lc_gt, lc_eq, Int.toNat_natCast, Int.reduceToNat, Nat.reduceAdd, Nat.reduceEqDiff, Int.reduceLT, Int.reduceEq, Int.reduceNeg, Int.reduceAdd, Int.reduceMul, Nat.reduceMul, ms_n, ms_i, ms_l, ms_p, PM, e2 (), e3 ()]
  first | exact ⟨by omega, hK⟩ | exact hK
end
theorem SkX.act28 {σ : mM} {C : Ct} {w : Sk} {p : Nat} {u v : Int} (h : SkX σ 28 C w) (ha : ActR u v) : SkX (mj_set σ 30 p u) 28 C (actW w p v) := by
  obtain ⟨h1, h2, h3, h4⟩ := h
  refine ⟨h1, h2, h3, fun j hj => ?_⟩
  obtain ⟨a1, a2, a3, a4⟩ := h4 j hj
  refine ⟨a1, a2, a3, ?_⟩
  show ActR (mj_set σ 30 p u 30 j) (if j = p then v else w.2.2.2.2 j)
  rw [ms_app, if_pos rfl]
  by_cases e : j = p
  · rw [if_pos e, if_pos e]; exact ha
  · rw [if_neg e, if_neg e]; exact a4
theorem SkX.act34 {σ : mM} {C : Ct} {w : Sk} {p : Nat} {u v : Int} (h : SkX σ 34 C w) (ha : ActR u v) : SkX (mj_set σ 36 p u) 34 C (actW w p v) := by
  obtain ⟨h1, h2, h3, h4⟩ := h
  refine ⟨h1, h2, h3, fun j hj => ?_⟩
  obtain ⟨a1, a2, a3, a4⟩ := h4 j hj
  refine ⟨a1, a2, a3, ?_⟩
  show ActR (mj_set σ 36 p u 36 j) (if j = p then v else w.2.2.2.2 j)
  rw [ms_app, if_pos rfl]
  by_cases e : j = p
  · rw [if_pos e, if_pos e]; exact ha
  · rw [if_neg e, if_neg e]; exact a4
theorem SkM.act {σ : mM} {C : Ct} {w : Sk} {p : Nat} {v : Int} (h : SkM σ C w) : SkM (mj_set σ 182 (4 + 4 * p) v) C (actW w p v) := by
  refine ⟨by rw [ms_app, if_pos rfl, if_neg (by omega)]; exact h.1, fun j hj => ?_⟩
  obtain ⟨a1, a2, a3, a4⟩ := h.2 j hj
  refine ⟨by rw [ms_app, if_pos rfl, if_neg (by omega)]; exact a1, by rw [ms_app, if_pos rfl, if_neg (by omega)]; exact a2, by rw [ms_app, if_pos rfl, if_neg (by omega)]; exact a3, ?_⟩
  show mj_set σ 182 (4 + 4 * p) v 182 (4 + 4 * j) = (if j = p then v else w.2.2.2.2 j)
  rw [ms_app, if_pos rfl]
  by_cases e : j = p
  · rw [if_pos (by omega), if_pos e]
  · rw [if_neg (by omega), if_neg e]; exact a4
section
variable {d : Nat} {σ : mM} {K : Option mV → mM → Prop}
theorem x_slips {C : Ct} {w : Sk} {s : Int} (hF : Fix σ) (hC : CtV C) (hn : σ 3 4 = (C.1 : Int)) (hs : SkX σ 28 C w) (hsl : σ 3 9 = s) (hz : 0 ≤ σ 0 13 ∧ σ 0 13 ≤ 2147483647) (hK : ∀ σ', Fr [30] [(0, 13)] σ σ' → SkX σ' 28 C (slW C s (σ 0 13) w) → σ' 0 13 = slZ C s (σ 0 13) → K (some (.inl (slI C s (σ 0 13)))) σ') : Mt (d + 2) 143 [.inr (.inr 0)] σ K := by
  refine Mt.go (lv := [some (.inr (.inr 0)), none]) rfl rfl rfl ?_
  have n7 := hC.1
  generalize hzz : σ 0 13 = z at *
  have b1 := drw_le (z := z)
  have b2 := drw_le (z := drw z)
  have hF1 : Fix (mj_set σ 0 13 (drw z)) := hF.set rfl
  have no : ¬(drw z / 64 % 100 < s ∧ 0 < C.1) → At (d + 1) 143 1 [some (.inr (.inr 0)), none] [] (mj_set σ 0 13 (drw z)) K := by
    intro h
    refine At.blk rfl rfl rfl fun sx => ?_
    simp (decide := true) only [RR, ms_app, toList_some, toList_none, if_true, if_false, true_and, and_true, cond_true, sm0, sm1, sm1l, sm2, lc_lt, lc_gt, lc_eq, Int.toNat_natCast, Int.reduceToNat, Nat.reduceAdd, Nat.reduceEqDiff, Int.reduceLT, Int.reduceEq, Int.reduceNeg, Int.reduceAdd, Int.reduceMul, Nat.reduceMul, ms_n, ms_i, ms_l, ms_p, PX]
    have := hK (mj_set σ 0 13 (drw z)) (Fr.same.set rfl) (by unfold slW; rw [if_neg h]; exact hs.cg rfl rfl rfl) (by unfold slZ; rw [if_neg h]; rfl)
    unfold slI at this
    rw [if_neg h] at this
    exact this
  refine At.blk rfl rfl rfl fun sx => ?_
  simp (decide := true) only [RR, ms_app, toList_some, toList_none, if_true, if_false, true_and, and_true, cond_true, sm0, sm1, sm1l, sm2, lc_lt, lc_gt, lc_eq, Int.toNat_natCast, Int.reduceToNat, Nat.reduceAdd, Nat.reduceEqDiff, Int.reduceLT, Int.reduceEq, Int.reduceNeg, Int.reduceAdd, Int.reduceMul, Nat.reduceMul, ms_n, ms_i, ms_l, ms_p, PX]
  refine cal_of rfl (x_draw hF (by omega) (by decide) ?_)
  rw [hzz]
  simp (decide := true) only [RR, ms_app, toList_some, toList_none, if_true, if_false, true_and, and_true, cond_true, sm0, sm1, sm1l, sm2, lc_lt, lc_gt, lc_eq, Int.toNat_natCast, Int.reduceToNat, Nat.reduceAdd, Nat.reduceEqDiff, Int.reduceLT, Int.reduceEq, Int.reduceNeg, Int.reduceAdd, Int.reduceMul, Nat.reduceMul, ms_n, ms_i, ms_l, ms_p, PX, fxX hF, hsl, hn]
  by_cases a1 : drw z / 64 % 100 < s
  · rw [if_pos a1]
    by_cases a2 : C.1 = 0
    · rw [if_pos (by omega)]; exact no (by omega)
    · rw [if_neg (by omega)]
      have hh : drw z / 64 % 100 < s ∧ 0 < C.1 := ⟨a1, by omega⟩
      refine At.blk rfl rfl rfl fun sx => ?_
      simp (decide := true) only [RR, ms_app, toList_some, toList_none, if_true, if_false, true_and, and_true, cond_true, sm0, sm1, sm1l, sm2, lc_lt, lc_gt, lc_eq, Int.toNat_natCast, Int.reduceToNat, Nat.reduceAdd, Nat.reduceEqDiff, Int.reduceLT, Int.reduceEq, Int.reduceNeg, Int.reduceAdd, Int.reduceMul, Nat.reduceMul, ms_n, ms_i, ms_l, ms_p, PX, fxX hF, hn]
      refine cal_of rfl (x_draw hF1 (by rw [ms_app, if_pos rfl, if_pos rfl]; exact b1) (by omega) ?_)
      rw [show mj_set σ 0 13 (drw z) 0 13 = drw z from rfl]
      have hF2 : Fix (mj_set (mj_set σ 0 13 (drw z)) 0 13 (drw (drw z))) := hF1.set rfl
      have pb : 0 ≤ drw (drw z) / 64 % (C.1 : Int) ∧ drw (drw z) / 64 % (C.1 : Int) < C.1 := ⟨Int.emod_nonneg _ (by omega), Int.emod_lt_of_pos _ (by omega)⟩
      simp (decide := true) only [RR, ms_app, toList_some, toList_none, if_true, if_false, true_and, and_true, cond_true, sm0, sm1, sm1l, sm2, lc_lt, lc_gt, lc_eq, Int.toNat_natCast, Int.reduceToNat, Nat.reduceAdd, Nat.reduceEqDiff, Int.reduceLT, Int.reduceEq, Int.reduceNeg, Int.reduceAdd, Int.reduceMul, Nat.reduceMul, ms_n, ms_i, ms_l, ms_p, PX, fxX hF]
      refine cal_of rfl (x_draw hF2 (by rw [ms_app, if_pos rfl, if_pos rfl]; exact b2) (by decide) ?_)
      rw [show mj_set (mj_set σ 0 13 (drw z)) 0 13 (drw (drw z)) 0 13 = drw (drw z) from rfl]
      simp (decide := true) only [RR, ms_app, toList_some, toList_none, if_true, if_false, true_and, and_true, cond_true, sm0, sm1, sm1l, sm2, lc_lt, lc_gt, lc_eq, Int.toNat_natCast, Int.reduceToNat, Nat.reduceAdd, Nat.reduceEqDiff, Int.reduceLT, Int.reduceEq, Int.reduceNeg, Int.reduceAdd, Int.reduceMul, Nat.reduceMul, ms_n, ms_i, ms_l, ms_p, PX]
      refine ⟨⟨by omega, by omega⟩, ?_⟩
      have := hK (mj_set (mj_set (mj_set (mj_set σ 0 13 (drw z)) 0 13 (drw (drw z))) 0 13 (drw (drw (drw z)))) 30 (drw (drw z) / 64 % (C.1 : Int)).toNat (drw (drw (drw z)) / 64 % 21)) (((((Fr.same.set rfl).set rfl).set rfl)).setr rfl) (by
        unfold slW; rw [if_pos hh]
        exact SkX.act28 (hs.cg rfl rfl rfl) (Or.inl (by omega))) (by unfold slZ; rw [if_pos hh]; rfl)
      unfold slI at this
      rw [if_pos hh] at this
      exact this
  · rw [if_neg a1]; exact no (by omega)
end
theorem KpM.put {σ : mM} {l : Kp} {k : Nat} {v : Int} (h : KpM σ l) (hk : k < 29) : KpM (mj_set σ 182 k v) l := by
  refine ⟨by rw [ms_app, if_pos rfl, if_neg (by omega)]; exact h.1, fun i hi => ?_⟩
  have := h.2 i hi
  exact ⟨by rw [ms_app, if_pos rfl, if_neg (by omega)]; exact this.1, by rw [ms_app, if_pos rfl, if_neg (by omega)]; exact this.2.1, by rw [ms_app, if_pos rfl, if_neg (by omega)]; exact this.2.2⟩
def xcT : List (Nat × Nat) := [(21, 4), (28, 2), (39, 1), (0, 13)]
def mcT : List (Nat × Nat) := [(146, 95), (146, 46), (146, 54), (146, 55), (146, 56), (146, 67)]
theorem p_chance {σ : mM} (h : Inv σ) (a : Int) (_ : inR a) : PairI Inv 130 236 [.inl a] σ := by
  have hF := h.1
  obtain ⟨C, w, l, hC, hcx, hcm, hw, hsx, hsm, hkx, hkm, hkv, h9⟩ := h.wrl
  obtain ⟨x, c, r1, r2, r3, r4, r5, r6⟩ := h.ring
  obtain ⟨y1, y2⟩ := h.2.2.2.2.1
  have n7 := hC.1
  obtain ⟨-, -, -, ⟨v1, v2⟩, -, -⟩ := h.2.2.2.2.2.2.2.1
  generalize es : σ 3 9 = s at *
  generalize ez : σ 0 13 = z at *
  have en : σ 28 2 = w.1 := hsx.1
  have em : σ 182 0 = w.1 := hsm.1
  refine Mt.go (lv := [some (.inr (.inr 0)), some (.inl a), none, none]) rfl rfl rfl ?_
  refine At.blk rfl rfl rfl fun sx => ?_
  simp (decide := true) only [RR, ms_app, toList_some, toList_none, if_true, if_false, true_and, and_true, cond_true, sm0, sm1, sm1l, sm2, lc_lt, lc_gt, lc_eq, Int.toNat_natCast, Int.reduceToNat, Nat.reduceAdd, Nat.reduceEqDiff, Int.reduceLT, Int.reduceEq, Int.reduceNeg, Int.reduceAdd, Int.reduceMul, Nat.reduceMul, ms_n, ms_i, ms_l, ms_p, PX, fxX hF]
  refine cal_of rfl (x_canCome hF (by omega) (by decide) (fun hh => ?_) (fun hh => ?_))
  · obtain ⟨n, rfl⟩ := Int.eq_ofNat_of_zero_le (show 0 ≤ a by omega)
    rw [en] at hh
    simp (decide := true) only [RR, ms_app, toList_some, toList_none, if_true, if_false, true_and, and_true, cond_true, sm0, sm1, sm1l, sm2, lc_lt, lc_gt, lc_eq, Int.toNat_natCast, Int.reduceToNat, Nat.reduceAdd, Nat.reduceEqDiff, Int.reduceLT, Int.reduceEq, Int.reduceNeg, Int.reduceAdd, Int.reduceMul, Nat.reduceMul, ms_n, ms_i, ms_l, ms_p, PX]
    refine At.blk rfl rfl rfl fun sx => ?_
    simp (decide := true) only [RR, ms_app, toList_some, toList_none, if_true, if_false, true_and, and_true, cond_true, sm0, sm1, sm1l, sm2, lc_lt, lc_gt, lc_eq, Int.toNat_natCast, Int.reduceToNat, Nat.reduceAdd, Nat.reduceEqDiff, Int.reduceLT, Int.reduceEq, Int.reduceNeg, Int.reduceAdd, Int.reduceMul, Nat.reduceMul, ms_n, ms_i, ms_l, ms_p, PX, fxX hF]
    refine cal_of rfl (x_remember hF r5 r2 r6 r4 ?_)
    simp (decide := true) only [RR, ms_app, toList_some, toList_none, if_true, if_false, true_and, and_true, cond_true, sm0, sm1, sm1l, sm2, lc_lt, lc_gt, lc_eq, Int.toNat_natCast, Int.reduceToNat, Nat.reduceAdd, Nat.reduceEqDiff, Int.reduceLT, Int.reduceEq, Int.reduceNeg, Int.reduceAdd, Int.reduceMul, Nat.reduceMul, ms_n, ms_i, ms_l, ms_p, PX]
    have loop : ∀ m k : Nat, n - k = m → k ≤ n → ∀ σ', Fr xnL xcT (remC σ x c) σ' → SkX σ' 28 C (chW C s z w k) → KpX σ' (chL C s z w l k) → σ' 0 13 = chZ C s z k → At 999 130 2 [some (.inr (.inr 0)), some (.inl (n : Int)), some (.inl (chS C s z k)), some (.inl (k : Int))] [] σ' (fun r σ1 => ∃ v, r = some (.inl v) ∧ Mt 1000 236 [.inr (.inr 146), .inl (n : Int)] σ1 (fun r2 σ2 => r2 = some (.inl v) ∧ Inv σ2)) := by
      intro m
      induction m with
      | zero =>
        intro k hk hk2 σ' fr sX kx zx
        obtain rfl : k = n := by omega
        refine At.blk rfl rfl rfl fun sx => ?_
        simp (decide := true) only [RR, ms_app, toList_some, toList_none, if_true, if_false, true_and, and_true, cond_true, sm0, sm1, sm1l, sm2, lc_lt, lc_gt, lc_eq, Int.toNat_natCast, Int.reduceToNat, Nat.reduceAdd, Nat.reduceEqDiff, Int.reduceLT, Int.reduceEq, Int.reduceNeg, Int.reduceAdd, Int.reduceMul, Nat.reduceMul, ms_n, ms_i, ms_l, ms_p, PX]
        rw [if_neg (by omega)]
        refine At.blk rfl rfl rfl fun sx => ?_
        simp (decide := true) only [RR, ms_app, toList_some, toList_none, if_true, if_false, true_and, and_true, cond_true, sm0, sm1, sm1l, sm2, lc_lt, lc_gt, lc_eq, Int.toNat_natCast, Int.reduceToNat, Nat.reduceAdd, Nat.reduceEqDiff, Int.reduceLT, Int.reduceEq, Int.reduceNeg, Int.reduceAdd, Int.reduceMul, Nat.reduceMul, ms_n, ms_i, ms_l, ms_p, PX]
        refine ⟨_, rfl, ?_⟩
        have F1 := fix_remC (c := c) hF r2
        have hF' : Fix σ' := F1.fr fr rfl
        have row : ∀ q, (!(xnL.elem q) && xcT.all (fun p => !(Nat.beq p.1 q))) = true → q ≠ 41 → (q < 44 ∨ 144 ≤ q) → σ' q = σ q := fun q h1 h2 h3 => (fr.row q h1).trans (remC_ne h2 (by omega))
        have e182 : σ' 182 = σ 182 := row 182 rfl (by decide) (by omega)
        have e146 : σ' 146 = σ 146 := row 146 rfl (by decide) (by omega)
        refine Mt.go (lv := [some (.inr (.inr 146)), some (.inl (k : Int)), none, none, none]) rfl rfl rfl ?_
        refine At.blk rfl rfl rfl fun sx => ?_
        simp (decide := true) only [RR, ms_app, toList_some, toList_none, if_true, if_false, true_and, and_true, cond_true, sm0, sm1, sm1l, sm2, lc_lt, lc_gt, lc_eq, Int.toNat_natCast, Int.reduceToNat, Nat.reduceAdd, Nat.reduceEqDiff, Int.reduceLT, Int.reduceEq, Int.reduceNeg, Int.reduceAdd, Int.reduceMul, Nat.reduceMul, ms_n, ms_i, ms_l, ms_p, PM]
        refine cal_of rfl (m_isAhead hF' (by rw [e182]; omega) (by decide) (by decide) (fun h1 => ?_) (fun h1 => by rw [e182, em] at h1; omega))
        simp (decide := true) only [RR, ms_app, toList_some, toList_none, if_true, if_false, true_and, and_true, cond_true, sm0, sm1, sm1l, sm2, lc_lt, lc_gt, lc_eq, Int.toNat_natCast, Int.reduceToNat, Nat.reduceAdd, Nat.reduceEqDiff, Int.reduceLT, Int.reduceEq, Int.reduceNeg, Int.reduceAdd, Int.reduceMul, Nat.reduceMul, ms_n, ms_i, ms_l, ms_p, PM]
        refine At.blk rfl rfl rfl fun sx => ?_
        simp (decide := true) only [RR, ms_app, toList_some, toList_none, if_true, if_false, true_and, and_true, cond_true, sm0, sm1, sm1l, sm2, lc_lt, lc_gt, lc_eq, Int.toNat_natCast, Int.reduceToNat, Nat.reduceAdd, Nat.reduceEqDiff, Int.reduceLT, Int.reduceEq, Int.reduceNeg, Int.reduceAdd, Int.reduceMul, Nat.reduceMul, ms_n, ms_i, ms_l, ms_p, PM]
        refine cal_of rfl (m_keeps hF' (by rw [e146]; exact r1) r2 (by rw [e146]; exact r3) r4 ?_)
        simp (decide := true) only [RR, ms_app, toList_some, toList_none, if_true, if_false, true_and, and_true, cond_true, sm0, sm1, sm1l, sm2, lc_lt, lc_gt, lc_eq, Int.toNat_natCast, Int.reduceToNat, Nat.reduceAdd, Nat.reduceEqDiff, Int.reduceLT, Int.reduceEq, Int.reduceNeg, Int.reduceAdd, Int.reduceMul, Nat.reduceMul, ms_n, ms_i, ms_l, ms_p, PM]
        generalize hσ3 : keepM σ' x c = σ3
        have hF3 : Fix σ3 := by rw [← hσ3]; exact fix_keepM hF'
        have row3 : ∀ q, q ≠ 193 → q ≠ 146 → (!(xnL.elem q) && xcT.all (fun p => !(Nat.beq p.1 q))) = true → q ≠ 41 → (q < 44 ∨ 144 ≤ q) → σ3 q = σ q := fun q z1 z2 h1 h2 h3 => by
          rw [← hσ3, keepM_ne z1 z2]; exact row q h1 h2 h3
        have z53 : σ3 146 53 = 0 := by
          rw [← hσ3, keepM_146 (by decide) (by decide), e146]
          exact h.2.2.2.2.2.2.2.2.2.2.2
        have z67 : σ3 146 67 = z := by
          rw [← hσ3, keepM_146 (by decide) (by decide), e146]; exact y1
        have c3 : CtM σ3 C := hcm.cg (by rw [row3 173 (by decide) (by decide) rfl (by decide) (by omega)]) (by rw [row3 178 (by decide) (by decide) rfl (by decide) (by omega)]) (row3 176 (by decide) (by decide) rfl (by decide) (by omega)) (row3 179 (by decide) (by decide) rfl (by decide) (by omega)) (row3 180 (by decide) (by decide) rfl (by decide) (by omega)) (row3 181 (by decide) (by decide) rfl (by decide) (by omega))
        have e178 : σ3 178 3 = s := by rw [row3 178 (by decide) (by decide) rfl (by decide) (by omega)]; exact v1
        have loop2 : ∀ m j : Nat, k - j = m → j ≤ k → ∀ (o : Option mV) σ4, Fr mnL mcT σ3 σ4 → SkM σ4 C (chW C s z w j) → KpM σ4 (chL C s z w l j) → σ4 146 67 = chZ C s z j → At 999 236 2 [some (.inr (.inr 146)), some (.inl (k : Int)), some (.inl (chS C s z j)), some (.inl (j : Int)), o] [] σ4 (fun r2 σ2 => r2 = some (.inl (chS C s z k)) ∧ Inv σ2) := by
          intro m
          induction m with
          | zero =>
            intro j hj hj2 o σ4 f4 s4 k4 z4
            obtain rfl : j = k := by omega
            refine At.blk rfl rfl rfl fun sx => ?_
            simp (decide := true) only [RR, ms_app, toList_some, toList_none, if_true, if_false, true_and, and_true, cond_true, sm0, sm1, sm1l, sm2, lc_lt, lc_gt, lc_eq, Int.toNat_natCast, Int.reduceToNat, Nat.reduceAdd, Nat.reduceEqDiff, Int.reduceLT, Int.reduceEq, Int.reduceNeg, Int.reduceAdd, Int.reduceMul, Nat.reduceMul, ms_n, ms_i, ms_l, ms_p, PM]
            rw [if_neg (by omega)]
            refine At.blk rfl rfl rfl fun sx => ?_
            simp (decide := true) only [RR, ms_app, toList_some, toList_none, if_true, if_false, true_and, and_true, cond_true, sm0, sm1, sm1l, sm2, lc_lt, lc_gt, lc_eq, Int.toNat_natCast, Int.reduceToNat, Nat.reduceAdd, Nat.reduceEqDiff, Int.reduceLT, Int.reduceEq, Int.reduceNeg, Int.reduceAdd, Int.reduceMul, Nat.reduceMul, ms_n, ms_i, ms_l, ms_p, PM]
            have I0 := h.keep r1 r6
            have f0 : Fr nxL nxT (keepM (remC σ x c) x c) σ4 := by
              refine Fr.trans ?_ (f4.mono rfl)
              rw [← hσ3]
              exact (keepM_fr fr (fr.row 182 rfl)).mono rfl
            have q4 : ∀ q, (!(mnL.elem q) && mcT.all (fun p => !(Nat.beq p.1 q))) = true → q ≠ 193 → q ≠ 146 → σ4 q = σ' q := fun q z1 z2 z3 => by
              rw [f4.row q z1, ← hσ3, keepM_ne z2 z3]
            have wn := chW_night (C := C) (s := s) (z := z) (w := w) j
            refine I0.nx f0 ⟨?_, ?_⟩ (sky_of ?_ (chW_V hw j (by omega)) (sX.cg (q4 28 rfl (by decide) (by decide)) (q4 29 rfl (by decide) (by decide)) (q4 30 rfl (by decide) (by decide))) s4 (by omega)) (kept_of (kx.cg (by rw [q4 39 rfl (by decide) (by decide)]) (q4 40 rfl (by decide) (by decide))) k4 (chL_V hC h9.1 hkv j (by omega)))
            · rw [z4, q4 0 rfl (by decide) (by decide), zx]
            · rw [q4 0 rfl (by decide) (by decide), zx]; exact chZ_le y2 j
            · rw [q4 3 rfl (by decide) (by decide), row 3 rfl (by decide) (by omega)]; exact hcx.1
          | succ m ih =>
            intro j hj hj2 o σ4 f4 s4 k4 z4
            have hF4 := hF3.fr f4 rfl
            have wn := chW_night (C := C) (s := s) (z := z) (w := w) j
            have zb := chZ_le (C := C) (s := s) y2 j
            have bS := sumN_le (f := fun j => slI C s (chZ C s z j)) (c := 1) j (fun j _ => slI_le)
            have w1 : Unit → w32 ((j : Int) + 1) = ((j + 1 : Nat) : Int) := fun _ => by rw [w32_small (by omega) (by omega)]; omega
            have c4 : CtM σ4 C := c3.cg (f4 173 2 rfl) (f4 178 2 rfl) (f4.row 176 rfl) (f4.row 179 rfl) (f4.row 180 rfl) (f4.row 181 rfl)
            have three : ∀ (σ5 : mM) (u : Int) (o : Option mV), Fr mnL mcT σ3 σ5 → SkM σ5 C (slW C s (chZ C s z j) (chW C s z w j)) → KpM σ5 (chL C s z w l j) → σ5 146 67 = slZ C s (chZ C s z j) → u = chS C s z (j + 1) → At 999 236 3 [some (.inr (.inr 146)), some (.inl (k : Int)), some (.inl u), some (.inl (j : Int)), o] [] σ5 (fun r2 σ2 => r2 = some (.inl (chS C s z k)) ∧ Inv σ2) := by
              intro σ5 u o f5 s5 k5 z5 hu
              have hF5 := hF3.fr f5 rfl
              refine At.blk rfl rfl rfl fun sx => ?_
              simp (decide := true) only [RR, ms_app, toList_some, toList_none, if_true, if_false, true_and, and_true, cond_true, sm0, sm1, sm1l, sm2, lc_lt, lc_gt, lc_eq, Int.toNat_natCast, Int.reduceToNat, Nat.reduceAdd, Nat.reduceEqDiff, Int.reduceLT, Int.reduceEq, Int.reduceNeg, Int.reduceAdd, Int.reduceMul, Nat.reduceMul, ms_n, ms_i, ms_l, ms_p, PM]
              refine cal_of rfl (m_nightGoes (th := 0) (l := chL C s z w l j) hF5 hC (slW_V (chW_V hw j (by omega))) (by rw [slW_night]; omega) (c3.cg (f5 173 2 rfl) (f5 178 2 rfl) (f5.row 176 rfl) (f5.row 179 rfl) (f5.row 180 rfl) (f5.row 181 rfl)) s5 ((f5 146 53 rfl).trans z53) (Or.inr ⟨rfl, k5, chL_V hC h9.1 hkv j (by omega), by rw [slW_night]; omega⟩) (fun σ6 f6 s6 k6 _ _ _ => ?_))
              simp (decide := true) only [RR, ms_app, toList_some, toList_none, if_true, if_false, true_and, and_true, cond_true, sm0, sm1, sm1l, sm2, lc_lt, lc_gt, lc_eq, Int.toNat_natCast, Int.reduceToNat, Nat.reduceAdd, Nat.reduceEqDiff, Int.reduceLT, Int.reduceEq, Int.reduceNeg, Int.reduceAdd, Int.reduceMul, Nat.reduceMul, ms_n, ms_i, ms_l, ms_p, PM, w1 ()]
              have kk : KpM σ6 (chL C s z w l (j + 1)) := by
                rcases k6 with ⟨k7, _⟩ | ⟨_, k7, _⟩
                · exact absurd k7 (by decide)
                · exact k7
              rw [hu]
              exact ih (j + 1) (by omega) (by omega) o σ6 (f5.trans (f6.mono rfl)) s6 kk ((f6 146 67 rfl).trans z5)
            have chS1 : chS C s z (j + 1) = chS C s z j + slI C s (chZ C s z j) := rfl
            generalize hz0 : chZ C s z j = z0 at *
            have b1 := drw_le (z := z0)
            have b2 := drw_le (z := drw z0)
            have no : ¬(drw z0 / 64 % 100 < s ∧ 0 < C.1) → At 999 236 3 [some (.inr (.inr 146)), some (.inl (k : Int)), some (.inl (chS C s z j)), some (.inl (j : Int)), o] [] (mj_set σ4 146 67 (drw z0)) (fun r2 σ2 => r2 = some (.inl (chS C s z k)) ∧ Inv σ2) := by
              intro hno
              refine three _ _ o (f4.set rfl) ?_ (k4.cg rfl) ?_ ?_
              · unfold slW; rw [if_neg hno]; exact s4.oth (by decide)
              · unfold slZ; rw [if_neg hno, ms_app, if_pos rfl, if_pos rfl]
              · rw [chS1]; unfold slI; rw [if_neg hno]; omega
            have hF5 : Fix (mj_set σ4 146 67 (drw z0)) := hF4.set rfl
            have e178' : σ4 178 3 = s := by
              rw [f4 178 3 rfl]; exact e178
            have c5 : mj_set σ4 146 67 (drw z0) 173 2 = (C.1 : Int) := c4.1
            refine At.blk rfl rfl rfl fun sx => ?_
            simp (decide := true) only [RR, ms_app, toList_some, toList_none, if_true, if_false, true_and, and_true, cond_true, sm0, sm1, sm1l, sm2, lc_lt, lc_gt, lc_eq, Int.toNat_natCast, Int.reduceToNat, Nat.reduceAdd, Nat.reduceEqDiff, Int.reduceLT, Int.reduceEq, Int.reduceNeg, Int.reduceAdd, Int.reduceMul, Nat.reduceMul, ms_n, ms_i, ms_l, ms_p, PM]
            rw [if_pos (by omega)]
            refine cal_of rfl (m_drawOf (by omega) (by decide) (by decide) ?_)
            rw [z4]
            simp (decide := true) only [RR, ms_app, toList_some, toList_none, if_true, if_false, true_and, and_true, cond_true, sm0, sm1, sm1l, sm2, lc_lt, lc_gt, lc_eq, Int.toNat_natCast, Int.reduceToNat, Nat.reduceAdd, Nat.reduceEqDiff, Int.reduceLT, Int.reduceEq, Int.reduceNeg, Int.reduceAdd, Int.reduceMul, Nat.reduceMul, ms_n, ms_i, ms_l, ms_p, PM, fxM hF4, e178']
            by_cases a1 : drw z0 / 64 % 100 < s
            · rw [if_pos a1]
              refine cal_of rfl (m_partMany hF5 ?_)
              simp (decide := true) only [RR, ms_app, toList_some, toList_none, if_true, if_false, true_and, and_true, cond_true, sm0, sm1, sm1l, sm2, lc_lt, lc_gt, lc_eq, Int.toNat_natCast, Int.reduceToNat, Nat.reduceAdd, Nat.reduceEqDiff, Int.reduceLT, Int.reduceEq, Int.reduceNeg, Int.reduceAdd, Int.reduceMul, Nat.reduceMul, ms_n, ms_i, ms_l, ms_p, PM, c4.1]
              by_cases a2 : C.1 = 0
              · rw [if_neg (by omega)]; exact no (by omega)
              · rw [if_pos (by omega)]
                have hh1 : drw z0 / 64 % 100 < s ∧ 0 < C.1 := ⟨a1, by omega⟩
                refine cal_of rfl (m_partMany hF5 ?_)
                simp (decide := true) only [RR, ms_app, toList_some, toList_none, if_true, if_false, true_and, and_true, cond_true, sm0, sm1, sm1l, sm2, lc_lt, lc_gt, lc_eq, Int.toNat_natCast, Int.reduceToNat, Nat.reduceAdd, Nat.reduceEqDiff, Int.reduceLT, Int.reduceEq, Int.reduceNeg, Int.reduceAdd, Int.reduceMul, Nat.reduceMul, ms_n, ms_i, ms_l, ms_p, PM, c4.1]
                refine cal_of rfl (m_drawOf (by rw [ms_app, if_pos rfl, if_pos rfl]; exact b1) (by omega) (by omega) ?_)
                rw [show mj_set σ4 146 67 (drw z0) 146 67 = drw z0 from rfl]
                have hF6 : Fix (mj_set (mj_set σ4 146 67 (drw z0)) 146 67 (drw (drw z0))) := hF5.set rfl
                have pb : 0 ≤ drw (drw z0) / 64 % (C.1 : Int) ∧ drw (drw z0) / 64 % (C.1 : Int) < C.1 := ⟨Int.emod_nonneg _ (by omega), Int.emod_lt_of_pos _ (by omega)⟩
                generalize hP : drw (drw z0) / 64 % (C.1 : Int) = P at *
                obtain ⟨P, rfl⟩ := Int.eq_ofNat_of_zero_le pb.1
                have i1 : Unit → w32 (4 * (P : Int)) = ((4 * P : Nat) : Int) := fun _ => by rw [w32_small (by omega) (by omega)]; omega
                have i2 : Unit → w32 (4 + ((4 * P : Nat) : Int)) = ((4 + 4 * P : Nat) : Int) := fun _ => by rw [w32_small (by omega) (by omega)]; omega
                simp (decide := true) only [RR, ms_app, toList_some, toList_none, if_true, if_false, true_and, and_true, cond_true, sm0, sm1, sm1l, sm2, lc_lt, lc_gt, lc_eq, Int.toNat_natCast, Int.reduceToNat, Nat.reduceAdd, Nat.reduceEqDiff, Int.reduceLT, Int.reduceEq, Int.reduceNeg, Int.reduceAdd, Int.reduceMul, Nat.reduceMul, ms_n, ms_i, ms_l, ms_p, PM, fxM hF4, i1 (), i2 ()]
                refine cal_of rfl (m_drawOf (by rw [ms_app, if_pos rfl, if_pos rfl]; exact b2) (by decide) (by decide) ?_)
                rw [show mj_set (mj_set σ4 146 67 (drw z0)) 146 67 (drw (drw z0)) 146 67 = drw (drw z0) from rfl]
                simp (decide := true) only [RR, ms_app, toList_some, toList_none, if_true, if_false, true_and, and_true, cond_true, sm0, sm1, sm1l, sm2, lc_lt, lc_gt, lc_eq, Int.toNat_natCast, Int.reduceToNat, Nat.reduceAdd, Nat.reduceEqDiff, Int.reduceLT, Int.reduceEq, Int.reduceNeg, Int.reduceAdd, Int.reduceMul, Nat.reduceMul, ms_n, ms_i, ms_l, ms_p, PM]
                refine ⟨⟨by omega, by omega⟩, ?_⟩
                rw [w32_small (by unfold chS; omega) (by unfold chS; omega)]
                refine three _ _ _ ((((f4.set rfl).set rfl).set rfl).setr rfl) ?_ ?_ ?_ ?_
                · unfold slW; rw [if_pos hh1, hP, Int.toNat_natCast]
                  exact SkM.act (((s4.oth (by decide)).oth (by decide)).oth (by decide))
                · exact KpM.put (k4.cg rfl) (by omega)
                · unfold slZ; rw [if_pos hh1]; rfl
                · rw [chS1]; unfold slI; rw [if_pos hh1]
            · rw [if_neg a1]; exact no (by omega)
        exact loop2 k 0 rfl (by omega) none σ3 Fr.same (hsm.cg (fun j _ => by rw [row3 182 (by decide) (by decide) rfl (by decide) (by omega)]) hC.1) (hkm.cg (row3 182 (by decide) (by decide) rfl (by decide) (by omega))) z67
      | succ m ih =>
        intro k hk hk2 σ' fr sX kx zx
        have F1 := fix_remC (c := c) hF r2
        have hF' : Fix σ' := F1.fr fr rfl
        have row : ∀ q, (!(xnL.elem q) && xcT.all (fun p => !(Nat.beq p.1 q))) = true → q ≠ 41 → (q < 44 ∨ 144 ≤ q) → σ' q = σ q := fun q h1 h2 h3 => (fr.row q h1).trans (remC_ne h2 (by omega))
        have wn := chW_night (C := C) (s := s) (z := z) (w := w) k
        have zb := chZ_le (C := C) (s := s) y2 k
        have bS := sumN_le (f := fun j => slI C s (chZ C s z j)) (c := 1) k (fun j _ => slI_le)
        have w1 : Unit → w32 ((k : Int) + 1) = ((k + 1 : Nat) : Int) := fun _ => by rw [w32_small (by omega) (by omega)]; omega
        have r3' : σ' 3 = σ 3 := row 3 rfl (by decide) (by omega)
        have three : ∀ (σ2 : mM) (u : Int), Fr xnL xcT (remC σ x c) σ2 → SkX σ2 28 C (slW C s (chZ C s z k) (chW C s z w k)) → KpX σ2 (chL C s z w l k) → σ2 0 13 = slZ C s (chZ C s z k) → u = chS C s z (k + 1) → At 999 130 3 [some (.inr (.inr 0)), some (.inl (n : Int)), some (.inl u), some (.inl (k : Int))] [] σ2 (fun r σ1 => ∃ v, r = some (.inl v) ∧ Mt 1000 236 [.inr (.inr 146), .inl (n : Int)] σ1 (fun r2 σ2 => r2 = some (.inl v) ∧ Inv σ2)) := by
          intro σ2 u f2 s2 k2 z2 hu
          have hF2 : Fix σ2 := F1.fr f2 rfl
          have row2 : ∀ q, (!(xnL.elem q) && xcT.all (fun p => !(Nat.beq p.1 q))) = true → q ≠ 41 → (q < 44 ∨ 144 ≤ q) → σ2 q = σ q := fun q h1 h2 h3 => (f2.row q h1).trans (remC_ne h2 (by omega))
          refine At.blk rfl rfl rfl fun sx => ?_
          simp (decide := true) only [RR, ms_app, toList_some, toList_none, if_true, if_false, true_and, and_true, cond_true, sm0, sm1, sm1l, sm2, lc_lt, lc_gt, lc_eq, Int.toNat_natCast, Int.reduceToNat, Nat.reduceAdd, Nat.reduceEqDiff, Int.reduceLT, Int.reduceEq, Int.reduceNeg, Int.reduceAdd, Int.reduceMul, Nat.reduceMul, ms_n, ms_i, ms_l, ms_p, PX]
          refine cal_of rfl (x_passNight hF2 hC (slW_V (chW_V hw k (by omega))) (by rw [slW_night]; omega) (hcx.cg (row2 3 rfl (by decide) (by omega)) (row2 6 rfl (by decide) (by omega)) (row2 8 rfl (by decide) (by omega)) (row2 9 rfl (by decide) (by omega)) (row2 10 rfl (by decide) (by omega))) s2 k2 (chL_V hC h9.1 hkv k (by omega)) (fun σ5 f5 s5 k5 => ?_))
          simp (decide := true) only [RR, ms_app, toList_some, toList_none, if_true, if_false, true_and, and_true, cond_true, sm0, sm1, sm1l, sm2, lc_lt, lc_gt, lc_eq, Int.toNat_natCast, Int.reduceToNat, Nat.reduceAdd, Nat.reduceEqDiff, Int.reduceLT, Int.reduceEq, Int.reduceNeg, Int.reduceAdd, Int.reduceMul, Nat.reduceMul, ms_n, ms_i, ms_l, ms_p, PX, w1 ()]
          rw [nxC_eq (by rw [slW_night]; omega)] at s5
          rw [hu]
          exact ih (k + 1) (by omega) (by omega) σ5 (f2.trans (f5.mono rfl)) s5 k5 ((f5 0 13 rfl).trans z2)
        refine At.blk rfl rfl rfl fun sx => ?_
        simp (decide := true) only [RR, ms_app, toList_some, toList_none, if_true, if_false, true_and, and_true, cond_true, sm0, sm1, sm1l, sm2, lc_lt, lc_gt, lc_eq, Int.toNat_natCast, Int.reduceToNat, Nat.reduceAdd, Nat.reduceEqDiff, Int.reduceLT, Int.reduceEq, Int.reduceNeg, Int.reduceAdd, Int.reduceMul, Nat.reduceMul, ms_n, ms_i, ms_l, ms_p, PX]
        rw [if_pos (by omega)]
        refine cal_of rfl (x_slips (s := s) hF' hC (by rw [r3']; exact hcx.1) sX (by rw [r3']; exact es) (by rw [zx]; exact zb) (fun σ2 f2 s2 z2 => ?_))
        rw [zx] at s2 z2
        rw [zx]
        have k2 := kx.cg (f2 39 1 rfl) (f2.row 40 rfl)
        have f2' := fr.trans (f2.mono (L' := xnL) (T' := xcT) rfl)
        have chS1 : chS C s z (k + 1) = chS C s z k + slI C s (chZ C s z k) := rfl
        have hi : slI C s (chZ C s z k) = 0 ∨ slI C s (chZ C s z k) = 1 := by
          have := slI_le (C := C) (s := s) (z := chZ C s z k); omega
        rcases hi with hi | hi
        · rw [hi]
          simp (decide := true) only [RR, ms_app, toList_some, toList_none, if_true, if_false, true_and, and_true, cond_true, sm0, sm1, sm1l, sm2, lc_lt, lc_gt, lc_eq, Int.toNat_natCast, Int.reduceToNat, Nat.reduceAdd, Nat.reduceEqDiff, Int.reduceLT, Int.reduceEq, Int.reduceNeg, Int.reduceAdd, Int.reduceMul, Nat.reduceMul, ms_n, ms_i, ms_l, ms_p, PX]
          exact three σ2 _ f2' s2 k2 z2 (by rw [chS1, hi]; omega)
        · rw [hi]
          simp (decide := true) only [RR, ms_app, toList_some, toList_none, if_true, if_false, true_and, and_true, cond_true, sm0, sm1, sm1l, sm2, lc_lt, lc_gt, lc_eq, Int.toNat_natCast, Int.reduceToNat, Nat.reduceAdd, Nat.reduceEqDiff, Int.reduceLT, Int.reduceEq, Int.reduceNeg, Int.reduceAdd, Int.reduceMul, Nat.reduceMul, ms_n, ms_i, ms_l, ms_p, PX]
          rw [w32_small (by unfold chS; omega) (by unfold chS; omega)]
          exact three σ2 _ f2' s2 k2 z2 (by rw [chS1, hi])
    refine loop n 0 rfl (by omega) _ Fr.same (hsx.cg (remC_ne (by decide) (by omega)) (remC_ne (by decide) (by omega)) (remC_ne (by decide) (by omega))) (hkx.cg (by rw [remC_ne (by decide) (by omega)]) (remC_ne (by decide) (by omega))) ?_
    rw [remC_ne (by decide) (by omega)]; exact ez
  · rw [en] at hh
    simp (decide := true) only [RR, ms_app, toList_some, toList_none, if_true, if_false, true_and, and_true, cond_true, sm0, sm1, sm1l, sm2, lc_lt, lc_gt, lc_eq, Int.toNat_natCast, Int.reduceToNat, Nat.reduceAdd, Nat.reduceEqDiff, Int.reduceLT, Int.reduceEq, Int.reduceNeg, Int.reduceAdd, Int.reduceMul, Nat.reduceMul, ms_n, ms_i, ms_l, ms_p, PX]
    refine cal_of rfl (x_refuse (k := 3) hF (by decide) ?_)
    simp (decide := true) only [RR, ms_app, toList_some, toList_none, if_true, if_false, true_and, and_true, cond_true, sm0, sm1, sm1l, sm2, lc_lt, lc_gt, lc_eq, Int.toNat_natCast, Int.reduceToNat, Nat.reduceAdd, Nat.reduceEqDiff, Int.reduceLT, Int.reduceEq, Int.reduceNeg, Int.reduceAdd, Int.reduceMul, Nat.reduceMul, ms_n, ms_i, ms_l, ms_p, PX]
    refine ⟨-1, rfl, ?_⟩
    have hF2 : Fix (mj_set σ 145 3 (w32 (σ 145 3 + 1))) := hF.set rfl
    refine Mt.go (lv := [some (.inr (.inr 146)), some (.inl a), none, none, none]) rfl rfl rfl ?_
    refine At.blk rfl rfl rfl fun sx => ?_
    simp (decide := true) only [RR, ms_app, toList_some, toList_none, if_true, if_false, true_and, and_true, cond_true, sm0, sm1, sm1l, sm2, lc_lt, lc_gt, lc_eq, Int.toNat_natCast, Int.reduceToNat, Nat.reduceAdd, Nat.reduceEqDiff, Int.reduceLT, Int.reduceEq, Int.reduceNeg, Int.reduceAdd, Int.reduceMul, Nat.reduceMul, ms_n, ms_i, ms_l, ms_p, PM]
    refine cal_of rfl (m_isAhead hF2 (by show 0 ≤ σ 182 0 ∧ σ 182 0 ≤ 1100; omega) (by decide) (by decide) (fun h1 => ?_) (fun h1 => ?_))
    · have h1 : 1 ≤ a ∧ a ≤ 100 ∧ σ 182 0 + a ≤ 999 := h1
      omega
    · simp (decide := true) only [RR, ms_app, toList_some, toList_none, if_true, if_false, true_and, and_true, cond_true, sm0, sm1, sm1l, sm2, lc_lt, lc_gt, lc_eq, Int.toNat_natCast, Int.reduceToNat, Nat.reduceAdd, Nat.reduceEqDiff, Int.reduceLT, Int.reduceEq, Int.reduceNeg, Int.reduceAdd, Int.reduceMul, Nat.reduceMul, ms_n, ms_i, ms_l, ms_p, PM]
      refine cal_of rfl (m_refuses (k := 3) (by decide) hF2 ?_)
      simp (decide := true) only [RR, ms_app, toList_some, toList_none, if_true, if_false, true_and, and_true, cond_true, sm0, sm1, sm1l, sm2, lc_lt, lc_gt, lc_eq, Int.toNat_natCast, Int.reduceToNat, Nat.reduceAdd, Nat.reduceEqDiff, Int.reduceLT, Int.reduceEq, Int.reduceNeg, Int.reduceAdd, Int.reduceMul, Nat.reduceMul, ms_n, ms_i, ms_l, ms_p, PM]
      exact h.ref (by decide)
