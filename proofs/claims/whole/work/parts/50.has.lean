/-! has -/
def sumN (f : Nat → Int) : Nat → Int
  | 0 => 0
  | n + 1 => sumN f n + f n
theorem sumN_le {f : Nat → Int} {c : Int} : ∀ n : Nat, (∀ j, j < n → 0 ≤ f j ∧ f j ≤ c) → 0 ≤ sumN f n ∧ sumN f n ≤ c * n
  | 0, _ => by simp [sumN]
  | n + 1, h => by
    have ih := sumN_le (f := f) n (fun j hj => h j (by omega))
    have hn := h n (by omega)
    have : c * ((n + 1 : Nat) : Int) = c * (n : Int) + c := by rw [Int.natCast_add, Int.mul_add]; simp
    simp only [sumN]
    omega
theorem sumN_cg {f g : Nat → Int} : ∀ n : Nat, (∀ j, j < n → f j = g j) → sumN f n = sumN g n
  | 0, _ => rfl
  | n + 1, h => by
    simp only [sumN]
    rw [sumN_cg n (fun j hj => h j (by omega)), h n (by omega)]
def galeI (g v : Int) : Int := if g ≤ v then 1 else 0
theorem galeI_le {g v : Int} : 0 ≤ galeI g v ∧ galeI g v ≤ 1 := by
  unfold galeI; split <;> omega
section
variable {d : Nat} {σ : mM} {K : Option mV → mM → Prop}
theorem x_countGales28 (hF : Fix σ) (hc : 0 ≤ σ 3 4 ∧ σ 3 4 ≤ 7) (hK : K (some (.inl (sumN (fun p => galeI (σ 3 8) (σ 29 p)) (σ 3 4).toNat))) σ) : Mt (d + 1) 94 [.inr (.inr 21), .inr (.inr 28)] σ K := by
  refine Mt.go (lv := [some (.inr (.inr 21)), some (.inr (.inr 28)), none, none]) rfl rfl rfl ?_
  obtain ⟨n, hn⟩ := Int.eq_ofNat_of_zero_le hc.1
  refine At.blk rfl rfl rfl fun sx => ?_
  simp (decide := true) only [RR, ms_app, toList_some, toList_none, if_true, if_false, true_and, and_true, cond_true, sm0, sm1, sm1l, sm2, lc_lt, lc_gt, lc_eq, Int.toNat_natCast, Int.reduceToNat, Nat.reduceAdd, Nat.reduceEqDiff, Int.reduceLT, Int.reduceEq, Int.reduceNeg, Int.reduceAdd, Int.reduceMul, Nat.reduceMul, ms_n, ms_i, ms_l, ms_p, PX, fxX hF]
  have loop : ∀ m p : Nat, n - p = m → p ≤ n → At d 94 1 [some (.inr (.inr 21)), some (.inr (.inr 28)), some (.inl (sumN (fun p => galeI (σ 3 8) (σ 29 p)) p)), some (.inl (p : Int))] [] σ K := by
    intro m
    induction m with
    | zero =>
      intro p hp hp2
      obtain rfl : p = n := by omega
      refine At.blk rfl rfl rfl fun sx => ?_
      simp (decide := true) only [RR, ms_app, toList_some, toList_none, if_true, if_false, true_and, and_true, cond_true, sm0, sm1, sm1l, sm2, lc_lt, lc_gt, lc_eq, Int.toNat_natCast, Int.reduceToNat, Nat.reduceAdd, Nat.reduceEqDiff, Int.reduceLT, Int.reduceEq, Int.reduceNeg, Int.reduceAdd, Int.reduceMul, Nat.reduceMul, ms_n, ms_i, ms_l, ms_p, PX, fxX hF]
      rw [if_neg (by omega)]
      refine At.blk rfl rfl rfl fun sx => ?_
      simp (decide := true) only [RR, ms_app, toList_some, toList_none, if_true, if_false, true_and, and_true, cond_true, sm0, sm1, sm1l, sm2, lc_lt, lc_gt, lc_eq, Int.toNat_natCast, Int.reduceToNat, Nat.reduceAdd, Nat.reduceEqDiff, Int.reduceLT, Int.reduceEq, Int.reduceNeg, Int.reduceAdd, Int.reduceMul, Nat.reduceMul, ms_n, ms_i, ms_l, ms_p, PX, fxX hF]
      rwa [hn] at hK
    | succ m ih =>
      intro p hp hp2
      have b := sumN_le (f := fun p => galeI (σ 3 8) (σ 29 p)) (c := 1) p (fun j _ => galeI_le)
      refine At.blk rfl rfl rfl fun sx => ?_
      simp (decide := true) only [RR, ms_app, toList_some, toList_none, if_true, if_false, true_and, and_true, cond_true, sm0, sm1, sm1l, sm2, lc_lt, lc_gt, lc_eq, Int.toNat_natCast, Int.reduceToNat, Nat.reduceAdd, Nat.reduceEqDiff, Int.reduceLT, Int.reduceEq, Int.reduceNeg, Int.reduceAdd, Int.reduceMul, Nat.reduceMul, ms_n, ms_i, ms_l, ms_p, PX, fxX hF]
      rw [if_pos (by omega)]
      refine ⟨⟨by omega, by omega⟩, ?_⟩
      have go : ∀ v : Int, v = sumN (fun p => galeI (σ 3 8) (σ 29 p)) (p + 1) → At d 94 2 [some (.inr (.inr 21)), some (.inr (.inr 28)), some (.inl v), some (.inl (p : Int))] [] σ K := by
        intro v hv
        refine At.blk rfl rfl rfl fun sx => ?_
        simp (decide := true) only [RR, ms_app, toList_some, toList_none, if_true, if_false, true_and, and_true, cond_true, sm0, sm1, sm1l, sm2, lc_lt, lc_gt, lc_eq, Int.toNat_natCast, Int.reduceToNat, Nat.reduceAdd, Nat.reduceEqDiff, Int.reduceLT, Int.reduceEq, Int.reduceNeg, Int.reduceAdd, Int.reduceMul, Nat.reduceMul, ms_n, ms_i, ms_l, ms_p, PX, fxX hF]
        rw [w32_small (by omega) (by omega), hv]
        exact ih (p + 1) (by omega) (by omega)
      split
      · refine go _ ?_
        simp only [sumN, galeI]
        rw [if_neg (by omega)]
        omega
      · refine go _ ?_
        rw [w32_small (by omega) (by omega)]
        simp only [sumN, galeI]
        rw [if_pos (by omega)]
  exact loop n 0 rfl (by omega)
theorem x_countGales34 (hF : Fix σ) (hc : 0 ≤ σ 3 4 ∧ σ 3 4 ≤ 7) (hK : K (some (.inl (sumN (fun p => galeI (σ 3 8) (σ 35 p)) (σ 3 4).toNat))) σ) : Mt (d + 1) 94 [.inr (.inr 21), .inr (.inr 34)] σ K := by
  refine Mt.go (lv := [some (.inr (.inr 21)), some (.inr (.inr 34)), none, none]) rfl rfl rfl ?_
  obtain ⟨n, hn⟩ := Int.eq_ofNat_of_zero_le hc.1
  refine At.blk rfl rfl rfl fun sx => ?_
  simp (decide := true) only [RR, ms_app, toList_some, toList_none, if_true, if_false, true_and, and_true, cond_true, sm0, sm1, sm1l, sm2, lc_lt, lc_gt, lc_eq, Int.toNat_natCast, Int.reduceToNat, Nat.reduceAdd, Nat.reduceEqDiff, Int.reduceLT, Int.reduceEq, Int.reduceNeg, Int.reduceAdd, Int.reduceMul, Nat.reduceMul, ms_n, ms_i, ms_l, ms_p, PX, fxX hF]
  have loop : ∀ m p : Nat, n - p = m → p ≤ n → At d 94 1 [some (.inr (.inr 21)), some (.inr (.inr 34)), some (.inl (sumN (fun p => galeI (σ 3 8) (σ 35 p)) p)), some (.inl (p : Int))] [] σ K := by
    intro m
    induction m with
    | zero =>
      intro p hp hp2
      obtain rfl : p = n := by omega
      refine At.blk rfl rfl rfl fun sx => ?_
      simp (decide := true) only [RR, ms_app, toList_some, toList_none, if_true, if_false, true_and, and_true, cond_true, sm0, sm1, sm1l, sm2, lc_lt, lc_gt, lc_eq, Int.toNat_natCast, Int.reduceToNat, Nat.reduceAdd, Nat.reduceEqDiff, Int.reduceLT, Int.reduceEq, Int.reduceNeg, Int.reduceAdd, Int.reduceMul, Nat.reduceMul, ms_n, ms_i, ms_l, ms_p, PX, fxX hF]
      rw [if_neg (by omega)]
      refine At.blk rfl rfl rfl fun sx => ?_
      simp (decide := true) only [RR, ms_app, toList_some, toList_none, if_true, if_false, true_and, and_true, cond_true, sm0, sm1, sm1l, sm2, lc_lt, lc_gt, lc_eq, Int.toNat_natCast, Int.reduceToNat, Nat.reduceAdd, Nat.reduceEqDiff, Int.reduceLT, Int.reduceEq, Int.reduceNeg, Int.reduceAdd, Int.reduceMul, Nat.reduceMul, ms_n, ms_i, ms_l, ms_p, PX, fxX hF]
      rwa [hn] at hK
    | succ m ih =>
      intro p hp hp2
      have b := sumN_le (f := fun p => galeI (σ 3 8) (σ 35 p)) (c := 1) p (fun j _ => galeI_le)
      refine At.blk rfl rfl rfl fun sx => ?_
      simp (decide := true) only [RR, ms_app, toList_some, toList_none, if_true, if_false, true_and, and_true, cond_true, sm0, sm1, sm1l, sm2, lc_lt, lc_gt, lc_eq, Int.toNat_natCast, Int.reduceToNat, Nat.reduceAdd, Nat.reduceEqDiff, Int.reduceLT, Int.reduceEq, Int.reduceNeg, Int.reduceAdd, Int.reduceMul, Nat.reduceMul, ms_n, ms_i, ms_l, ms_p, PX, fxX hF]
      rw [if_pos (by omega)]
      refine ⟨⟨by omega, by omega⟩, ?_⟩
      have go : ∀ v : Int, v = sumN (fun p => galeI (σ 3 8) (σ 35 p)) (p + 1) → At d 94 2 [some (.inr (.inr 21)), some (.inr (.inr 34)), some (.inl v), some (.inl (p : Int))] [] σ K := by
        intro v hv
        refine At.blk rfl rfl rfl fun sx => ?_
        simp (decide := true) only [RR, ms_app, toList_some, toList_none, if_true, if_false, true_and, and_true, cond_true, sm0, sm1, sm1l, sm2, lc_lt, lc_gt, lc_eq, Int.toNat_natCast, Int.reduceToNat, Nat.reduceAdd, Nat.reduceEqDiff, Int.reduceLT, Int.reduceEq, Int.reduceNeg, Int.reduceAdd, Int.reduceMul, Nat.reduceMul, ms_n, ms_i, ms_l, ms_p, PX, fxX hF]
        rw [w32_small (by omega) (by omega), hv]
        exact ih (p + 1) (by omega) (by omega)
      split
      · refine go _ ?_
        simp only [sumN, galeI]
        rw [if_neg (by omega)]
        omega
      · refine go _ ?_
        rw [w32_small (by omega) (by omega)]
        simp only [sumN, galeI]
        rw [if_pos (by omega)]
  exact loop n 0 rfl (by omega)
theorem x_wholeAir (hF : Fix σ) (hc : 0 ≤ σ 3 4 ∧ σ 3 4 ≤ 7) (hv : ∀ p : Nat, (p : Int) < σ 3 4 → 0 ≤ σ 29 p ∧ σ 29 p ≤ 20) (hK : K (some (.inl (sumN (σ 29) (σ 3 4).toNat))) σ) : Mt (d + 1) 79 [.inr (.inr 28), .inl (σ 3 4)] σ K := by
  obtain ⟨n, hn⟩ := Int.eq_ofNat_of_zero_le hc.1
  rw [hn] at hK hv ⊢
  refine Mt.go (lv := [some (.inr (.inr 28)), some (.inl (n : Int)), none, none]) rfl rfl rfl ?_
  refine At.blk rfl rfl rfl fun sx => ?_
  simp (decide := true) only [RR, ms_app, toList_some, toList_none, if_true, if_false, true_and, and_true, cond_true, sm0, sm1, sm1l, sm2, lc_lt, lc_gt, lc_eq, Int.toNat_natCast, Int.reduceToNat, Nat.reduceAdd, Nat.reduceEqDiff, Int.reduceLT, Int.reduceEq, Int.reduceNeg, Int.reduceAdd, Int.reduceMul, Nat.reduceMul, ms_n, ms_i, ms_l, ms_p, PX, fxX hF]
  have loop : ∀ m p : Nat, n - p = m → p ≤ n → At d 79 1 [some (.inr (.inr 28)), some (.inl (n : Int)), some (.inl (sumN (σ 29) p)), some (.inl (p : Int))] [] σ K := by
    intro m
    induction m with
    | zero =>
      intro p hp hp2
      obtain rfl : p = n := by omega
      refine At.blk rfl rfl rfl fun sx => ?_
      simp (decide := true) only [RR, ms_app, toList_some, toList_none, if_true, if_false, true_and, and_true, cond_true, sm0, sm1, sm1l, sm2, lc_lt, lc_gt, lc_eq, Int.toNat_natCast, Int.reduceToNat, Nat.reduceAdd, Nat.reduceEqDiff, Int.reduceLT, Int.reduceEq, Int.reduceNeg, Int.reduceAdd, Int.reduceMul, Nat.reduceMul, ms_n, ms_i, ms_l, ms_p, PX, fxX hF]
      rw [if_neg (by omega)]
      refine At.blk rfl rfl rfl fun sx => ?_
      simp (decide := true) only [RR, ms_app, toList_some, toList_none, if_true, if_false, true_and, and_true, cond_true, sm0, sm1, sm1l, sm2, lc_lt, lc_gt, lc_eq, Int.toNat_natCast, Int.reduceToNat, Nat.reduceAdd, Nat.reduceEqDiff, Int.reduceLT, Int.reduceEq, Int.reduceNeg, Int.reduceAdd, Int.reduceMul, Nat.reduceMul, ms_n, ms_i, ms_l, ms_p, PX, fxX hF]
      exact hK
    | succ m ih =>
      intro p hp hp2
      have b := sumN_le (f := σ 29) (c := 20) p (fun j hj => hv j (by omega))
      have v := hv p (by omega)
      refine At.blk rfl rfl rfl fun sx => ?_
      simp (decide := true) only [RR, ms_app, toList_some, toList_none, if_true, if_false, true_and, and_true, cond_true, sm0, sm1, sm1l, sm2, lc_lt, lc_gt, lc_eq, Int.toNat_natCast, Int.reduceToNat, Nat.reduceAdd, Nat.reduceEqDiff, Int.reduceLT, Int.reduceEq, Int.reduceNeg, Int.reduceAdd, Int.reduceMul, Nat.reduceMul, ms_n, ms_i, ms_l, ms_p, PX, fxX hF]
      rw [if_pos (by omega), if_pos (by omega)]
      refine ⟨⟨by omega, by omega⟩, ?_⟩
      rw [w32_small (by omega) (by omega), w32_small (by omega) (by omega)]
      exact ih (p + 1) (by omega) (by omega)
  exact loop n 0 rfl (by omega)
/-- bits that are set -/
def bcF (v : Int) : Int :=
  let a := w32 (v - i_and (i_ushr v 1) 1431655765)
  let b := w32 (i_and a 858993459 + i_and (i_ushr a 2) 858993459)
  let c := i_and (w32 (b + i_ushr b 4)) 252645135
  let e := w32 (c + i_ushr c 8)
  let f := w32 (e + i_ushr e 16)
  i_and f 63
theorem x_bitCount {v : Int} (hK : K (some (.inl (bcF v))) σ) : Mt (d + 1) 273 [.inl v] σ K := by
  refine Mt.go (lv := [some (.inl v)]) rfl rfl rfl ?_
  refine At.blk rfl rfl rfl fun sx => ?_
  simp (decide := true) only [RR, ms_app, toList_some, toList_none, if_true, if_false, true_and, and_true, cond_true, sm0, sm1, sm1l, sm2, lc_lt, lc_gt, lc_eq, Int.toNat_natCast, Int.reduceToNat, Nat.reduceAdd, Nat.reduceEqDiff, Int.reduceLT, Int.reduceEq, Int.reduceNeg, Int.reduceAdd, Int.reduceMul, Nat.reduceMul, ms_n, ms_i, ms_l, ms_p, PX]
  exact hK
theorem bc_tab : ∀ n : Nat, n < 8 → ∀ v : Nat, v < 2 ^ n → bcF (v : Int) = sumN (fun p => bit (v : Int) p) n := by decide +kernel
theorem bc_sum {n : Nat} {v : Int} (hn : n ≤ 7) (h0 : 0 ≤ v) (h1 : v < 2 ^ n) : bcF v = sumN (bit v) n := by
  obtain ⟨u, rfl⟩ := Int.eq_ofNat_of_zero_le h0
  refine bc_tab n (by omega) u ?_
  have : ((2 ^ n : Nat) : Int) = (2 : Int) ^ n := by simp
  omega
theorem m_galeMany (hF : Fix σ) (hc : 0 ≤ σ 173 2 ∧ σ 173 2 ≤ 7) (hK : K (some (.inl (sumN (fun p => galeI (σ 178 2) (σ 182 (1 + 4 * p))) (σ 173 2).toNat))) σ) : Mt (d + 3) 187 [.inr (.inr 146)] σ K := by
  refine Mt.go (lv := [some (.inr (.inr 146)), none, none]) rfl rfl rfl ?_
  obtain ⟨n, hn⟩ := Int.eq_ofNat_of_zero_le hc.1
  refine At.blk rfl rfl rfl fun sx => ?_
  simp (decide := true) only [RR, ms_app, toList_some, toList_none, if_true, if_false, true_and, and_true, cond_true, sm0, sm1, sm1l, sm2, lc_lt, lc_gt, lc_eq, Int.toNat_natCast, Int.reduceToNat, Nat.reduceAdd, Nat.reduceEqDiff, Int.reduceLT, Int.reduceEq, Int.reduceNeg, Int.reduceAdd, Int.reduceMul, Nat.reduceMul, ms_n, ms_i, ms_l, ms_p, PM, fxM hF]
  have loop : ∀ m p : Nat, n - p = m → p ≤ n → At (d + 2) 187 1 [some (.inr (.inr 146)), some (.inl (sumN (fun p => galeI (σ 178 2) (σ 182 (1 + 4 * p))) p)), some (.inl (p : Int))] [] σ K := by
    intro m
    induction m with
    | zero =>
      intro p hp hp2
      obtain rfl : p = n := by omega
      refine At.blk rfl rfl rfl fun sx => ?_
      simp (decide := true) only [RR, ms_app, toList_some, toList_none, if_true, if_false, true_and, and_true, cond_true, sm0, sm1, sm1l, sm2, lc_lt, lc_gt, lc_eq, Int.toNat_natCast, Int.reduceToNat, Nat.reduceAdd, Nat.reduceEqDiff, Int.reduceLT, Int.reduceEq, Int.reduceNeg, Int.reduceAdd, Int.reduceMul, Nat.reduceMul, ms_n, ms_i, ms_l, ms_p, PM, fxM hF]
      refine cal_of rfl (m_partMany hF ?_)
      simp (decide := true) only [RR, ms_app, toList_some, toList_none, if_true, if_false, true_and, and_true, cond_true, sm0, sm1, sm1l, sm2, lc_lt, lc_gt, lc_eq, Int.toNat_natCast, Int.reduceToNat, Nat.reduceAdd, Nat.reduceEqDiff, Int.reduceLT, Int.reduceEq, Int.reduceNeg, Int.reduceAdd, Int.reduceMul, Nat.reduceMul, ms_n, ms_i, ms_l, ms_p, PM]
      rw [if_neg (by omega)]
      refine At.blk rfl rfl rfl fun sx => ?_
      simp (decide := true) only [RR, ms_app, toList_some, toList_none, if_true, if_false, true_and, and_true, cond_true, sm0, sm1, sm1l, sm2, lc_lt, lc_gt, lc_eq, Int.toNat_natCast, Int.reduceToNat, Nat.reduceAdd, Nat.reduceEqDiff, Int.reduceLT, Int.reduceEq, Int.reduceNeg, Int.reduceAdd, Int.reduceMul, Nat.reduceMul, ms_n, ms_i, ms_l, ms_p, PM, fxM hF]
      rwa [hn] at hK
    | succ m ih =>
      intro p hp hp2
      have b := sumN_le (f := fun p => galeI (σ 178 2) (σ 182 (1 + 4 * p))) (c := 1) p (fun j _ => galeI_le)
      refine At.blk rfl rfl rfl fun sx => ?_
      simp (decide := true) only [RR, ms_app, toList_some, toList_none, if_true, if_false, true_and, and_true, cond_true, sm0, sm1, sm1l, sm2, lc_lt, lc_gt, lc_eq, Int.toNat_natCast, Int.reduceToNat, Nat.reduceAdd, Nat.reduceEqDiff, Int.reduceLT, Int.reduceEq, Int.reduceNeg, Int.reduceAdd, Int.reduceMul, Nat.reduceMul, ms_n, ms_i, ms_l, ms_p, PM, fxM hF]
      refine cal_of rfl (m_partMany hF ?_)
      simp (decide := true) only [RR, ms_app, toList_some, toList_none, if_true, if_false, true_and, and_true, cond_true, sm0, sm1, sm1l, sm2, lc_lt, lc_gt, lc_eq, Int.toNat_natCast, Int.reduceToNat, Nat.reduceAdd, Nat.reduceEqDiff, Int.reduceLT, Int.reduceEq, Int.reduceNeg, Int.reduceAdd, Int.reduceMul, Nat.reduceMul, ms_n, ms_i, ms_l, ms_p, PM]
      rw [if_pos (by omega)]
      have go : ∀ v : Int, v = sumN (fun p => galeI (σ 178 2) (σ 182 (1 + 4 * p))) (p + 1) → At (d + 2) 187 2 [some (.inr (.inr 146)), some (.inl v), some (.inl (p : Int))] [] σ K := by
        intro v hv
        refine At.blk rfl rfl rfl fun sx => ?_
        simp (decide := true) only [RR, ms_app, toList_some, toList_none, if_true, if_false, true_and, and_true, cond_true, sm0, sm1, sm1l, sm2, lc_lt, lc_gt, lc_eq, Int.toNat_natCast, Int.reduceToNat, Nat.reduceAdd, Nat.reduceEqDiff, Int.reduceLT, Int.reduceEq, Int.reduceNeg, Int.reduceAdd, Int.reduceMul, Nat.reduceMul, ms_n, ms_i, ms_l, ms_p, PM, fxM hF]
        rw [w32_small (by omega) (by omega), hv]
        exact ih (p + 1) (by omega) (by omega)
      refine cal_of rfl (m_isGale hF (by omega) (fun hg => ?_) (fun hg => ?_))
      · simp (decide := true) only [RR, ms_app, toList_some, toList_none, if_true, if_false, true_and, and_true, cond_true, sm0, sm1, sm1l, sm2, lc_lt, lc_gt, lc_eq, Int.toNat_natCast, Int.reduceToNat, Nat.reduceAdd, Nat.reduceEqDiff, Int.reduceLT, Int.reduceEq, Int.reduceNeg, Int.reduceAdd, Int.reduceMul, Nat.reduceMul, ms_n, ms_i, ms_l, ms_p, PM]
        refine go _ ?_
        rw [w32_small (by omega) (by omega)]
        simp only [sumN, galeI]
        rw [Int.toNat_natCast] at hg
        rw [if_pos (by omega)]
      · simp (decide := true) only [RR, ms_app, toList_some, toList_none, if_true, if_false, true_and, and_true, cond_true, sm0, sm1, sm1l, sm2, lc_lt, lc_gt, lc_eq, Int.toNat_natCast, Int.reduceToNat, Nat.reduceAdd, Nat.reduceEqDiff, Int.reduceLT, Int.reduceEq, Int.reduceNeg, Int.reduceAdd, Int.reduceMul, Nat.reduceMul, ms_n, ms_i, ms_l, ms_p, PM]
        refine go _ ?_
        simp only [sumN, galeI]
        rw [Int.toNat_natCast] at hg
        rw [if_neg (by omega)]
        omega
  exact loop n 0 rfl (by omega)
theorem m_summed {w : Nat} (hw : w < 4) (hF : Fix σ) (hc : 0 ≤ σ 173 2 ∧ σ 173 2 ≤ 7) (hv : ∀ p : Nat, (p : Int) < σ 173 2 → 0 ≤ σ 182 (1 + 4 * p + w) ∧ σ 182 (1 + 4 * p + w) ≤ 20) (hK : K (some (.inl (sumN (fun p => σ 182 (1 + 4 * p + w)) (σ 173 2).toNat))) σ) : Mt (d + 2) 202 [.inr (.inr 146), .inl (w : Int)] σ K := by
  refine Mt.go (lv := [some (.inr (.inr 146)), some (.inl (w : Int)), none, none]) rfl rfl rfl ?_
  obtain ⟨n, hn⟩ := Int.eq_ofNat_of_zero_le hc.1
  refine At.blk rfl rfl rfl fun sx => ?_
  simp (decide := true) only [RR, ms_app, toList_some, toList_none, if_true, if_false, true_and, and_true, cond_true, sm0, sm1, sm1l, sm2, lc_lt, lc_gt, lc_eq, Int.toNat_natCast, Int.reduceToNat, Nat.reduceAdd, Nat.reduceEqDiff, Int.reduceLT, Int.reduceEq, Int.reduceNeg, Int.reduceAdd, Int.reduceMul, Nat.reduceMul, ms_n, ms_i, ms_l, ms_p, PM, fxM hF]
  have loop : ∀ m p : Nat, n - p = m → p ≤ n → At (d + 1) 202 1 [some (.inr (.inr 146)), some (.inl (w : Int)), some (.inl (sumN (fun p => σ 182 (1 + 4 * p + w)) p)), some (.inl (p : Int))] [] σ K := by
    intro m
    induction m with
    | zero =>
      intro p hp hp2
      obtain rfl : p = n := by omega
      refine At.blk rfl rfl rfl fun sx => ?_
      simp (decide := true) only [RR, ms_app, toList_some, toList_none, if_true, if_false, true_and, and_true, cond_true, sm0, sm1, sm1l, sm2, lc_lt, lc_gt, lc_eq, Int.toNat_natCast, Int.reduceToNat, Nat.reduceAdd, Nat.reduceEqDiff, Int.reduceLT, Int.reduceEq, Int.reduceNeg, Int.reduceAdd, Int.reduceMul, Nat.reduceMul, ms_n, ms_i, ms_l, ms_p, PM, fxM hF]
      refine cal_of rfl (m_partMany hF ?_)
      simp (decide := true) only [RR, ms_app, toList_some, toList_none, if_true, if_false, true_and, and_true, cond_true, sm0, sm1, sm1l, sm2, lc_lt, lc_gt, lc_eq, Int.toNat_natCast, Int.reduceToNat, Nat.reduceAdd, Nat.reduceEqDiff, Int.reduceLT, Int.reduceEq, Int.reduceNeg, Int.reduceAdd, Int.reduceMul, Nat.reduceMul, ms_n, ms_i, ms_l, ms_p, PM]
      rw [if_neg (by omega)]
      refine At.blk rfl rfl rfl fun sx => ?_
      simp (decide := true) only [RR, ms_app, toList_some, toList_none, if_true, if_false, true_and, and_true, cond_true, sm0, sm1, sm1l, sm2, lc_lt, lc_gt, lc_eq, Int.toNat_natCast, Int.reduceToNat, Nat.reduceAdd, Nat.reduceEqDiff, Int.reduceLT, Int.reduceEq, Int.reduceNeg, Int.reduceAdd, Int.reduceMul, Nat.reduceMul, ms_n, ms_i, ms_l, ms_p, PM, fxM hF]
      rwa [hn] at hK
    | succ m ih =>
      intro p hp hp2
      have b := sumN_le (f := fun p => σ 182 (1 + 4 * p + w)) (c := 20) p (fun j hj => hv j (by omega))
      have v := hv p (by omega)
      refine At.blk rfl rfl rfl fun sx => ?_
      simp (decide := true) only [RR, ms_app, toList_some, toList_none, if_true, if_false, true_and, and_true, cond_true, sm0, sm1, sm1l, sm2, lc_lt, lc_gt, lc_eq, Int.toNat_natCast, Int.reduceToNat, Nat.reduceAdd, Nat.reduceEqDiff, Int.reduceLT, Int.reduceEq, Int.reduceNeg, Int.reduceAdd, Int.reduceMul, Nat.reduceMul, ms_n, ms_i, ms_l, ms_p, PM, fxM hF]
      refine cal_of rfl (m_partMany hF ?_)
      simp (decide := true) only [RR, ms_app, toList_some, toList_none, if_true, if_false, true_and, and_true, cond_true, sm0, sm1, sm1l, sm2, lc_lt, lc_gt, lc_eq, Int.toNat_natCast, Int.reduceToNat, Nat.reduceAdd, Nat.reduceEqDiff, Int.reduceLT, Int.reduceEq, Int.reduceNeg, Int.reduceAdd, Int.reduceMul, Nat.reduceMul, ms_n, ms_i, ms_l, ms_p, PM, fxM hF]
      rw [if_pos (by omega), w32_small (x := 4 * (p : Int)) (by omega) (by omega), w32_small (x := 1 + 4 * (p : Int)) (by omega) (by omega), w32_small (x := 1 + 4 * (p : Int) + w) (by omega) (by omega), show (1 + 4 * (p : Int) + w).toNat = 1 + 4 * p + w by omega]
      refine ⟨⟨by omega, by omega⟩, ?_⟩
      rw [w32_small (by omega) (by omega), w32_small (by omega) (by omega)]
      exact ih (p + 1) (by omega) (by omega)
  exact loop n 0 rfl (by omega)
end
theorem p_has {σ : mM} (h : Inv σ) (a : Int) (_ : inR a) : PairI Inv 110 203 [.inl a] σ := by
  have hF := h.1
  obtain ⟨m1, m2, m3⟩ := h.many
  obtain ⟨g1, g2, g3⟩ := h.gale
  have hp : ∀ p : Nat, (p : Int) < σ 3 4 → _ := fun p hp => h.part hp
  obtain ⟨n, hn⟩ := Int.eq_ofNat_of_zero_le m2
  have n1 := h.2.2.2.2.2.2.2.2.1.1
  have n1 : σ 182 0 = σ 28 2 := n1
  have k1 : σ 182 29 = σ 39 1 := h.2.2.2.2.2.2.2.2.2.1.1
  have s1 : σ 146 58 = σ 31 1 := h.2.2.2.2.2.2.1.1
  have u1 : σ 146 65 = σ 41 3 := h.2.2.2.2.2.2.2.2.2.2.1.1
  have p1 : σ 173 3 = σ 3 5 := h.2.2.2.2.2.2.2.1.2.1
  have mm : ∀ v : Int, (a = 0 → v = σ 3 4) → (a = 1 → v = σ 3 5) → (a = 2 → v = σ 28 2) → (a = 3 → v = sumN (fun p => galeI (σ 3 8) (σ 29 p)) n) → (a = 4 → v = sumN (bit (σ 28 3)) n) → (a = 5 → v = sumN (bit (σ 28 4)) n) → (a = 6 → v = sumN (σ 29) n) → (a = 7 → v = σ 39 1) → (a = 8 → v = σ 31 1) → (a = 9 → v = σ 41 3) → (¬(0 ≤ a ∧ a ≤ 9) → v = -1) → Mt 1000 203 [.inr (.inr 146), .inl a] σ (fun r2 σ2 => r2 = some (.inl v) ∧ Inv σ2) := by
    intro v v0 v1 v2 v3 v4 v5 v6 v7 v8 v9 v10
    refine Mt.go (lv := [some (.inr (.inr 146)), some (.inl a)]) rfl rfl rfl ?_
    refine At.blk rfl rfl rfl fun sx => ?_
    simp (decide := true) only [RR, ms_app, toList_some, toList_none, if_true, if_false, true_and, and_true, cond_true, sm0, sm1, sm1l, sm2, lc_lt, lc_gt, lc_eq, Int.toNat_natCast, Int.reduceToNat, Nat.reduceAdd, Nat.reduceEqDiff, Int.reduceLT, Int.reduceEq, Int.reduceNeg, Int.reduceAdd, Int.reduceMul, Nat.reduceMul, ms_n, ms_i, ms_l, ms_p, PM, fxM hF]
    split
    · rename_i c; subst c
      refine At.blk rfl rfl rfl fun sx => ?_
      simp (decide := true) only [RR, ms_app, toList_some, toList_none, if_true, if_false, true_and, and_true, cond_true, sm0, sm1, sm1l, sm2, lc_lt, lc_gt, lc_eq, Int.toNat_natCast, Int.reduceToNat, Nat.reduceAdd, Nat.reduceEqDiff, Int.reduceLT, Int.reduceEq, Int.reduceNeg, Int.reduceAdd, Int.reduceMul, Nat.reduceMul, ms_n, ms_i, ms_l, ms_p, PM, fxM hF]
      exact ⟨by rw [v0 rfl]; exact congrArg (fun x => some (Sum.inl x)) m1, h⟩
    · split
      · rename_i c; subst c
        refine At.blk rfl rfl rfl fun sx => ?_
        simp (decide := true) only [RR, ms_app, toList_some, toList_none, if_true, if_false, true_and, and_true, cond_true, sm0, sm1, sm1l, sm2, lc_lt, lc_gt, lc_eq, Int.toNat_natCast, Int.reduceToNat, Nat.reduceAdd, Nat.reduceEqDiff, Int.reduceLT, Int.reduceEq, Int.reduceNeg, Int.reduceAdd, Int.reduceMul, Nat.reduceMul, ms_n, ms_i, ms_l, ms_p, PM, fxM hF]
        exact ⟨by rw [v1 rfl]; exact congrArg (fun x => some (Sum.inl x)) p1, h⟩
      · split
        · rename_i c; subst c
          refine At.blk rfl rfl rfl fun sx => ?_
          simp (decide := true) only [RR, ms_app, toList_some, toList_none, if_true, if_false, true_and, and_true, cond_true, sm0, sm1, sm1l, sm2, lc_lt, lc_gt, lc_eq, Int.toNat_natCast, Int.reduceToNat, Nat.reduceAdd, Nat.reduceEqDiff, Int.reduceLT, Int.reduceEq, Int.reduceNeg, Int.reduceAdd, Int.reduceMul, Nat.reduceMul, ms_n, ms_i, ms_l, ms_p, PM, fxM hF]
          exact ⟨by rw [v2 rfl, n1], h⟩
        · split
          · rename_i c; subst c
            refine At.blk rfl rfl rfl fun sx => ?_
            simp (decide := true) only [RR, ms_app, toList_some, toList_none, if_true, if_false, true_and, and_true, cond_true, sm0, sm1, sm1l, sm2, lc_lt, lc_gt, lc_eq, Int.toNat_natCast, Int.reduceToNat, Nat.reduceAdd, Nat.reduceEqDiff, Int.reduceLT, Int.reduceEq, Int.reduceNeg, Int.reduceAdd, Int.reduceMul, Nat.reduceMul, ms_n, ms_i, ms_l, ms_p, PM, fxM hF]
            refine cal_of rfl (m_galeMany hF (by omega) ?_)
            simp (decide := true) only [RR, ms_app, toList_some, toList_none, if_true, if_false, true_and, and_true, cond_true, sm0, sm1, sm1l, sm2, lc_lt, lc_gt, lc_eq, Int.toNat_natCast, Int.reduceToNat, Nat.reduceAdd, Nat.reduceEqDiff, Int.reduceLT, Int.reduceEq, Int.reduceNeg, Int.reduceAdd, Int.reduceMul, Nat.reduceMul, ms_n, ms_i, ms_l, ms_p, PM]
            refine ⟨?_, h⟩
            rw [v3 rfl, m1, hn, Int.toNat_natCast, sumN_cg n (g := fun p => galeI (σ 3 8) (σ 29 p))]
            intro j hj
            rw [g1, (hp j (by omega)).2.2.2.2.1.1]
          · split
            · rename_i c; subst c
              refine At.blk rfl rfl rfl fun sx => ?_
              simp (decide := true) only [RR, ms_app, toList_some, toList_none, if_true, if_false, true_and, and_true, cond_true, sm0, sm1, sm1l, sm2, lc_lt, lc_gt, lc_eq, Int.toNat_natCast, Int.reduceToNat, Nat.reduceAdd, Nat.reduceEqDiff, Int.reduceLT, Int.reduceEq, Int.reduceNeg, Int.reduceAdd, Int.reduceMul, Nat.reduceMul, ms_n, ms_i, ms_l, ms_p, PM, fxM hF]
              refine cal_of rfl (m_summed (w := 1) (by decide) hF (by omega) (fun p q => ?_) ?_)
              · have q := (hp p (by omega)).2.2.2.2.2.1
                rw [show 1 + 4 * p + 1 = 2 + 4 * p by omega, q]
                have := bit01 (v := σ 28 3) (p := p)
                omega
              · simp (decide := true) only [RR, ms_app, toList_some, toList_none, if_true, if_false, true_and, and_true, cond_true, sm0, sm1, sm1l, sm2, lc_lt, lc_gt, lc_eq, Int.toNat_natCast, Int.reduceToNat, Nat.reduceAdd, Nat.reduceEqDiff, Int.reduceLT, Int.reduceEq, Int.reduceNeg, Int.reduceAdd, Int.reduceMul, Nat.reduceMul, ms_n, ms_i, ms_l, ms_p, PM]
                refine ⟨?_, h⟩
                rw [v4 rfl, m1, hn, Int.toNat_natCast, sumN_cg n (g := bit (σ 28 3))]
                intro j hj
                rw [show 1 + 4 * j + 1 = 2 + 4 * j by omega, (hp j (by omega)).2.2.2.2.2.1]
            · split
              · rename_i c; subst c
                refine At.blk rfl rfl rfl fun sx => ?_
                simp (decide := true) only [RR, ms_app, toList_some, toList_none, if_true, if_false, true_and, and_true, cond_true, sm0, sm1, sm1l, sm2, lc_lt, lc_gt, lc_eq, Int.toNat_natCast, Int.reduceToNat, Nat.reduceAdd, Nat.reduceEqDiff, Int.reduceLT, Int.reduceEq, Int.reduceNeg, Int.reduceAdd, Int.reduceMul, Nat.reduceMul, ms_n, ms_i, ms_l, ms_p, PM, fxM hF]
                refine cal_of rfl (m_summed (w := 2) (by decide) hF (by omega) (fun p q => ?_) ?_)
                · have q := (hp p (by omega)).2.2.2.2.2.2.1
                  rw [show 1 + 4 * p + 2 = 3 + 4 * p by omega, q]
                  have := bit01 (v := σ 28 4) (p := p)
                  omega
                · simp (decide := true) only [RR, ms_app, toList_some, toList_none, if_true, if_false, true_and, and_true, cond_true, sm0, sm1, sm1l, sm2, lc_lt, lc_gt, lc_eq, Int.toNat_natCast, Int.reduceToNat, Nat.reduceAdd, Nat.reduceEqDiff, Int.reduceLT, Int.reduceEq, Int.reduceNeg, Int.reduceAdd, Int.reduceMul, Nat.reduceMul, ms_n, ms_i, ms_l, ms_p, PM]
                  refine ⟨?_, h⟩
                  rw [v5 rfl, m1, hn, Int.toNat_natCast, sumN_cg n (g := bit (σ 28 4))]
                  intro j hj
                  rw [show 1 + 4 * j + 2 = 3 + 4 * j by omega, (hp j (by omega)).2.2.2.2.2.2.1]
              · split
                · rename_i c; subst c
                  refine At.blk rfl rfl rfl fun sx => ?_
                  simp (decide := true) only [RR, ms_app, toList_some, toList_none, if_true, if_false, true_and, and_true, cond_true, sm0, sm1, sm1l, sm2, lc_lt, lc_gt, lc_eq, Int.toNat_natCast, Int.reduceToNat, Nat.reduceAdd, Nat.reduceEqDiff, Int.reduceLT, Int.reduceEq, Int.reduceNeg, Int.reduceAdd, Int.reduceMul, Nat.reduceMul, ms_n, ms_i, ms_l, ms_p, PM, fxM hF]
                  refine cal_of rfl (m_summed (w := 0) (by decide) hF (by omega) (fun p q => ?_) ?_)
                  · have q := (hp p (by omega)).2.2.2.2.1
                    rw [show 1 + 4 * p + 0 = 1 + 4 * p by omega]
                    omega
                  · simp (decide := true) only [RR, ms_app, toList_some, toList_none, if_true, if_false, true_and, and_true, cond_true, sm0, sm1, sm1l, sm2, lc_lt, lc_gt, lc_eq, Int.toNat_natCast, Int.reduceToNat, Nat.reduceAdd, Nat.reduceEqDiff, Int.reduceLT, Int.reduceEq, Int.reduceNeg, Int.reduceAdd, Int.reduceMul, Nat.reduceMul, ms_n, ms_i, ms_l, ms_p, PM]
                    refine ⟨?_, h⟩
                    rw [v6 rfl, m1, hn, Int.toNat_natCast, sumN_cg n (g := σ 29)]
                    intro j hj
                    rw [show 1 + 4 * j + 0 = 1 + 4 * j by omega, (hp j (by omega)).2.2.2.2.1.1]
                · split
                  · rename_i c; subst c
                    refine At.blk rfl rfl rfl fun sx => ?_
                    simp (decide := true) only [RR, ms_app, toList_some, toList_none, if_true, if_false, true_and, and_true, cond_true, sm0, sm1, sm1l, sm2, lc_lt, lc_gt, lc_eq, Int.toNat_natCast, Int.reduceToNat, Nat.reduceAdd, Nat.reduceEqDiff, Int.reduceLT, Int.reduceEq, Int.reduceNeg, Int.reduceAdd, Int.reduceMul, Nat.reduceMul, ms_n, ms_i, ms_l, ms_p, PM, fxM hF]
                    exact ⟨by rw [v7 rfl, k1], h⟩
                  · split
                    · rename_i c; subst c
                      refine At.blk rfl rfl rfl fun sx => ?_
                      simp (decide := true) only [RR, ms_app, toList_some, toList_none, if_true, if_false, true_and, and_true, cond_true, sm0, sm1, sm1l, sm2, lc_lt, lc_gt, lc_eq, Int.toNat_natCast, Int.reduceToNat, Nat.reduceAdd, Nat.reduceEqDiff, Int.reduceLT, Int.reduceEq, Int.reduceNeg, Int.reduceAdd, Int.reduceMul, Nat.reduceMul, ms_n, ms_i, ms_l, ms_p, PM, fxM hF]
                      exact ⟨by rw [v8 rfl, s1], h⟩
                    · split
                      · rename_i c; subst c
                        refine At.blk rfl rfl rfl fun sx => ?_
                        simp (decide := true) only [RR, ms_app, toList_some, toList_none, if_true, if_false, true_and, and_true, cond_true, sm0, sm1, sm1l, sm2, lc_lt, lc_gt, lc_eq, Int.toNat_natCast, Int.reduceToNat, Nat.reduceAdd, Nat.reduceEqDiff, Int.reduceLT, Int.reduceEq, Int.reduceNeg, Int.reduceAdd, Int.reduceMul, Nat.reduceMul, ms_n, ms_i, ms_l, ms_p, PM, fxM hF]
                        exact ⟨by rw [v9 rfl, u1], h⟩
                      · refine At.blk rfl rfl rfl fun sx => ?_
                        simp (decide := true) only [RR, ms_app, toList_some, toList_none, if_true, if_false, true_and, and_true, cond_true, sm0, sm1, sm1l, sm2, lc_lt, lc_gt, lc_eq, Int.toNat_natCast, Int.reduceToNat, Nat.reduceAdd, Nat.reduceEqDiff, Int.reduceLT, Int.reduceEq, Int.reduceNeg, Int.reduceAdd, Int.reduceMul, Nat.reduceMul, ms_n, ms_i, ms_l, ms_p, PM, fxM hF]
                        exact ⟨by rw [v10 (by omega)], h⟩
  suffices key : ∀ K : Option mV → mM → Prop, (∀ v : Int, (a = 0 → v = σ 3 4) → (a = 1 → v = σ 3 5) → (a = 2 → v = σ 28 2) → (a = 3 → v = sumN (fun p => galeI (σ 3 8) (σ 29 p)) n) → (a = 4 → v = sumN (bit (σ 28 3)) n) → (a = 5 → v = sumN (bit (σ 28 4)) n) → (a = 6 → v = sumN (σ 29) n) → (a = 7 → v = σ 39 1) → (a = 8 → v = σ 31 1) → (a = 9 → v = σ 41 3) → (¬(0 ≤ a ∧ a ≤ 9) → v = -1) → K (some (.inl v)) σ) → Mt 1000 110 [.inr (.inr 0), .inl a] σ K from key _ (fun v v0 v1 v2 v3 v4 v5 v6 v7 v8 v9 v10 => ⟨v, rfl, mm v v0 v1 v2 v3 v4 v5 v6 v7 v8 v9 v10⟩)
  intro K fin
  refine Mt.go (lv := [some (.inr (.inr 0)), some (.inl a)]) rfl rfl rfl ?_
  have sk : 0 ≤ σ 28 3 ∧ σ 28 3 < 2 ^ n ∧ 0 ≤ σ 28 4 ∧ σ 28 4 < 2 ^ n := by
    have := h.2.2.2.2.2.2.2.2.1.2.2
    rw [hn, Int.toNat_natCast] at this
    exact ⟨this.1.1, this.1.2, this.2.1.1, this.2.1.2⟩
  refine At.blk rfl rfl rfl fun sx => ?_
  simp (decide := true) only [RR, ms_app, toList_some, toList_none, if_true, if_false, true_and, and_true, cond_true, sm0, sm1, sm1l, sm2, lc_lt, lc_gt, lc_eq, Int.toNat_natCast, Int.reduceToNat, Nat.reduceAdd, Nat.reduceEqDiff, Int.reduceLT, Int.reduceEq, Int.reduceNeg, Int.reduceAdd, Int.reduceMul, Nat.reduceMul, ms_n, ms_i, ms_l, ms_p, PX, fxX hF]
  split
  · rename_i c
    refine At.blk rfl rfl rfl fun sx => ?_
    simp (decide := true) only [RR, ms_app, toList_some, toList_none, if_true, if_false, true_and, and_true, cond_true, sm0, sm1, sm1l, sm2, lc_lt, lc_gt, lc_eq, Int.toNat_natCast, Int.reduceToNat, Nat.reduceAdd, Nat.reduceEqDiff, Int.reduceLT, Int.reduceEq, Int.reduceNeg, Int.reduceAdd, Int.reduceMul, Nat.reduceMul, ms_n, ms_i, ms_l, ms_p, PX, fxX hF]
    exact fin _ (fun _ => rfl) (by omega) (by omega) (by omega) (by omega) (by omega) (by omega) (by omega) (by omega) (by omega) (by omega)
  · split
    · rename_i c
      refine At.blk rfl rfl rfl fun sx => ?_
      simp (decide := true) only [RR, ms_app, toList_some, toList_none, if_true, if_false, true_and, and_true, cond_true, sm0, sm1, sm1l, sm2, lc_lt, lc_gt, lc_eq, Int.toNat_natCast, Int.reduceToNat, Nat.reduceAdd, Nat.reduceEqDiff, Int.reduceLT, Int.reduceEq, Int.reduceNeg, Int.reduceAdd, Int.reduceMul, Nat.reduceMul, ms_n, ms_i, ms_l, ms_p, PX, fxX hF]
      exact fin _ (by omega) (fun _ => rfl) (by omega) (by omega) (by omega) (by omega) (by omega) (by omega) (by omega) (by omega) (by omega)
    · split
      · rename_i c
        refine At.blk rfl rfl rfl fun sx => ?_
        simp (decide := true) only [RR, ms_app, toList_some, toList_none, if_true, if_false, true_and, and_true, cond_true, sm0, sm1, sm1l, sm2, lc_lt, lc_gt, lc_eq, Int.toNat_natCast, Int.reduceToNat, Nat.reduceAdd, Nat.reduceEqDiff, Int.reduceLT, Int.reduceEq, Int.reduceNeg, Int.reduceAdd, Int.reduceMul, Nat.reduceMul, ms_n, ms_i, ms_l, ms_p, PX, fxX hF]
        exact fin _ (by omega) (by omega) (fun _ => rfl) (by omega) (by omega) (by omega) (by omega) (by omega) (by omega) (by omega) (by omega)
      · split
        · rename_i c
          refine At.blk rfl rfl rfl fun sx => ?_
          simp (decide := true) only [RR, ms_app, toList_some, toList_none, if_true, if_false, true_and, and_true, cond_true, sm0, sm1, sm1l, sm2, lc_lt, lc_gt, lc_eq, Int.toNat_natCast, Int.reduceToNat, Nat.reduceAdd, Nat.reduceEqDiff, Int.reduceLT, Int.reduceEq, Int.reduceNeg, Int.reduceAdd, Int.reduceMul, Nat.reduceMul, ms_n, ms_i, ms_l, ms_p, PX, fxX hF]
          refine cal_of rfl (x_countGales28 hF (by omega) ?_)
          simp (decide := true) only [RR, ms_app, toList_some, toList_none, if_true, if_false, true_and, and_true, cond_true, sm0, sm1, sm1l, sm2, lc_lt, lc_gt, lc_eq, Int.toNat_natCast, Int.reduceToNat, Nat.reduceAdd, Nat.reduceEqDiff, Int.reduceLT, Int.reduceEq, Int.reduceNeg, Int.reduceAdd, Int.reduceMul, Nat.reduceMul, ms_n, ms_i, ms_l, ms_p, PX]
          exact fin _ (by omega) (by omega) (by omega) (fun _ => by rw [hn]; rfl) (by omega) (by omega) (by omega) (by omega) (by omega) (by omega) (by omega)
        · split
          · rename_i c
            refine At.blk rfl rfl rfl fun sx => ?_
            simp (decide := true) only [RR, ms_app, toList_some, toList_none, if_true, if_false, true_and, and_true, cond_true, sm0, sm1, sm1l, sm2, lc_lt, lc_gt, lc_eq, Int.toNat_natCast, Int.reduceToNat, Nat.reduceAdd, Nat.reduceEqDiff, Int.reduceLT, Int.reduceEq, Int.reduceNeg, Int.reduceAdd, Int.reduceMul, Nat.reduceMul, ms_n, ms_i, ms_l, ms_p, PX, fxX hF]
            refine cal_of rfl (x_bitCount ?_)
            simp (decide := true) only [RR, ms_app, toList_some, toList_none, if_true, if_false, true_and, and_true, cond_true, sm0, sm1, sm1l, sm2, lc_lt, lc_gt, lc_eq, Int.toNat_natCast, Int.reduceToNat, Nat.reduceAdd, Nat.reduceEqDiff, Int.reduceLT, Int.reduceEq, Int.reduceNeg, Int.reduceAdd, Int.reduceMul, Nat.reduceMul, ms_n, ms_i, ms_l, ms_p, PX]
            exact fin _ (by omega) (by omega) (by omega) (by omega) (fun _ => bc_sum (by omega) sk.1 sk.2.1) (by omega) (by omega) (by omega) (by omega) (by omega) (by omega)
          · split
            · rename_i c
              refine At.blk rfl rfl rfl fun sx => ?_
              simp (decide := true) only [RR, ms_app, toList_some, toList_none, if_true, if_false, true_and, and_true, cond_true, sm0, sm1, sm1l, sm2, lc_lt, lc_gt, lc_eq, Int.toNat_natCast, Int.reduceToNat, Nat.reduceAdd, Nat.reduceEqDiff, Int.reduceLT, Int.reduceEq, Int.reduceNeg, Int.reduceAdd, Int.reduceMul, Nat.reduceMul, ms_n, ms_i, ms_l, ms_p, PX, fxX hF]
              refine cal_of rfl (x_bitCount ?_)
              simp (decide := true) only [RR, ms_app, toList_some, toList_none, if_true, if_false, true_and, and_true, cond_true, sm0, sm1, sm1l, sm2, lc_lt, lc_gt, lc_eq, Int.toNat_natCast, Int.reduceToNat, Nat.reduceAdd, Nat.reduceEqDiff, Int.reduceLT, Int.reduceEq, Int.reduceNeg, Int.reduceAdd, Int.reduceMul, Nat.reduceMul, ms_n, ms_i, ms_l, ms_p, PX]
              exact fin _ (by omega) (by omega) (by omega) (by omega) (by omega) (fun _ => bc_sum (by omega) sk.2.2.1 sk.2.2.2) (by omega) (by omega) (by omega) (by omega) (by omega)
            · split
              · rename_i c
                refine At.blk rfl rfl rfl fun sx => ?_
                simp (decide := true) only [RR, ms_app, toList_some, toList_none, if_true, if_false, true_and, and_true, cond_true, sm0, sm1, sm1l, sm2, lc_lt, lc_gt, lc_eq, Int.toNat_natCast, Int.reduceToNat, Nat.reduceAdd, Nat.reduceEqDiff, Int.reduceLT, Int.reduceEq, Int.reduceNeg, Int.reduceAdd, Int.reduceMul, Nat.reduceMul, ms_n, ms_i, ms_l, ms_p, PX, fxX hF]
                refine cal_of rfl (x_wholeAir hF (by omega) (fun p q => (hp p q).2.2.2.2.1.2) ?_)
                simp (decide := true) only [RR, ms_app, toList_some, toList_none, if_true, if_false, true_and, and_true, cond_true, sm0, sm1, sm1l, sm2, lc_lt, lc_gt, lc_eq, Int.toNat_natCast, Int.reduceToNat, Nat.reduceAdd, Nat.reduceEqDiff, Int.reduceLT, Int.reduceEq, Int.reduceNeg, Int.reduceAdd, Int.reduceMul, Nat.reduceMul, ms_n, ms_i, ms_l, ms_p, PX]
                exact fin _ (by omega) (by omega) (by omega) (by omega) (by omega) (by omega) (fun _ => by rw [hn]; rfl) (by omega) (by omega) (by omega) (by omega)
              · split
                · rename_i c
                  refine At.blk rfl rfl rfl fun sx => ?_
                  simp (decide := true) only [RR, ms_app, toList_some, toList_none, if_true, if_false, true_and, and_true, cond_true, sm0, sm1, sm1l, sm2, lc_lt, lc_gt, lc_eq, Int.toNat_natCast, Int.reduceToNat, Nat.reduceAdd, Nat.reduceEqDiff, Int.reduceLT, Int.reduceEq, Int.reduceNeg, Int.reduceAdd, Int.reduceMul, Nat.reduceMul, ms_n, ms_i, ms_l, ms_p, PX, fxX hF]
                  exact fin _ (by omega) (by omega) (by omega) (by omega) (by omega) (by omega) (by omega) (fun _ => rfl) (by omega) (by omega) (by omega)
                · split
                  · rename_i c
                    refine At.blk rfl rfl rfl fun sx => ?_
                    simp (decide := true) only [RR, ms_app, toList_some, toList_none, if_true, if_false, true_and, and_true, cond_true, sm0, sm1, sm1l, sm2, lc_lt, lc_gt, lc_eq, Int.toNat_natCast, Int.reduceToNat, Nat.reduceAdd, Nat.reduceEqDiff, Int.reduceLT, Int.reduceEq, Int.reduceNeg, Int.reduceAdd, Int.reduceMul, Nat.reduceMul, ms_n, ms_i, ms_l, ms_p, PX, fxX hF]
                    exact fin _ (by omega) (by omega) (by omega) (by omega) (by omega) (by omega) (by omega) (by omega) (fun _ => rfl) (by omega) (by omega)
                  · split
                    · rename_i c
                      refine At.blk rfl rfl rfl fun sx => ?_
                      simp (decide := true) only [RR, ms_app, toList_some, toList_none, if_true, if_false, true_and, and_true, cond_true, sm0, sm1, sm1l, sm2, lc_lt, lc_gt, lc_eq, Int.toNat_natCast, Int.reduceToNat, Nat.reduceAdd, Nat.reduceEqDiff, Int.reduceLT, Int.reduceEq, Int.reduceNeg, Int.reduceAdd, Int.reduceMul, Nat.reduceMul, ms_n, ms_i, ms_l, ms_p, PX, fxX hF]
                      exact fin _ (by omega) (by omega) (by omega) (by omega) (by omega) (by omega) (by omega) (by omega) (by omega) (fun _ => rfl) (by omega)
                    · refine At.blk rfl rfl rfl fun sx => ?_
                      simp (decide := true) only [RR, ms_app, toList_some, toList_none, if_true, if_false, true_and, and_true, cond_true, sm0, sm1, sm1l, sm2, lc_lt, lc_gt, lc_eq, Int.toNat_natCast, Int.reduceToNat, Nat.reduceAdd, Nat.reduceEqDiff, Int.reduceLT, Int.reduceEq, Int.reduceNeg, Int.reduceAdd, Int.reduceMul, Nat.reduceMul, ms_n, ms_i, ms_l, ms_p, PX, fxX hF]
                      exact fin _ (by omega) (by omega) (by omega) (by omega) (by omega) (by omega) (by omega) (by omega) (by omega) (by omega) (fun _ => rfl)
