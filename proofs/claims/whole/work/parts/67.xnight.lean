section
variable {d : Nat} {σ : mM} {K : Option mV → mM → Prop}
theorem x_imaxE {a b : Int} (hK : K (some (.inl (if a < b then b else a))) σ) : Mt (d + 1) 275 [.inl a, .inl b] σ K := x_imax (fun h => by rw [if_neg (by omega)] at hK; exact hK) (fun h => by rw [if_pos h] at hK; exact hK)
theorem x_iminE {a b : Int} (hK : K (some (.inl (if b < a then b else a))) σ) : Mt (d + 1) 277 [.inl a, .inl b] σ K := x_imin (fun h => by rw [if_neg (by omega)] at hK; exact hK) (fun h => by rw [if_pos h] at hK; exact hK)
theorem x_airOf {v : Int} (hK : K (some (.inl (cutA v))) σ) : Mt (d + 2) 150 [.inl v] σ K := by
  refine Mt.go (lv := [some (.inl v)]) rfl rfl rfl ?_
  refine At.blk rfl rfl rfl fun sx => ?_
  simp (decide := true) only [RR, ms_app, toList_some, toList_none, if_true, if_false, true_and, and_true, cond_true, sm0, sm1, sm1l, sm2, lc_lt, lc_gt, lc_eq, Int.toNat_natCast, Int.reduceToNat, Nat.reduceAdd, Nat.reduceEqDiff, Int.reduceLT, Int.reduceEq, Int.reduceNeg, Int.reduceAdd, Int.reduceMul, Nat.reduceMul, ms_n, ms_i, ms_l, ms_p, PX]
  refine cal_of rfl (x_imin (fun hh => ?_) (fun hh => ?_))
  · have e : cutA v = 20 := by
      unfold cutA
      rw [if_neg (by omega)]
      split <;> omega
    rw [e] at hK
    simp (decide := true) only [RR, ms_app, toList_some, toList_none, if_true, if_false, true_and, and_true, cond_true, sm0, sm1, sm1l, sm2, lc_lt, lc_gt, lc_eq, Int.toNat_natCast, Int.reduceToNat, Nat.reduceAdd, Nat.reduceEqDiff, Int.reduceLT, Int.reduceEq, Int.reduceNeg, Int.reduceAdd, Int.reduceMul, Nat.reduceMul, ms_n, ms_i, ms_l, ms_p, PX]
    refine cal_of rfl (x_imax (fun h2 => absurd h2 (by decide)) (fun _ => ?_))
    simp (decide := true) only [RR, ms_app, toList_some, toList_none, if_true, if_false, true_and, and_true, cond_true, sm0, sm1, sm1l, sm2, lc_lt, lc_gt, lc_eq, Int.toNat_natCast, Int.reduceToNat, Nat.reduceAdd, Nat.reduceEqDiff, Int.reduceLT, Int.reduceEq, Int.reduceNeg, Int.reduceAdd, Int.reduceMul, Nat.reduceMul, ms_n, ms_i, ms_l, ms_p, PX]
    exact hK
  · simp (decide := true) only [RR, ms_app, toList_some, toList_none, if_true, if_false, true_and, and_true, cond_true, sm0, sm1, sm1l, sm2, lc_lt, lc_gt, lc_eq, Int.toNat_natCast, Int.reduceToNat, Nat.reduceAdd, Nat.reduceEqDiff, Int.reduceLT, Int.reduceEq, Int.reduceNeg, Int.reduceAdd, Int.reduceMul, Nat.reduceMul, ms_n, ms_i, ms_l, ms_p, PX]
    refine cal_of rfl (x_imax (fun h2 => ?_) (fun h2 => ?_))
    · have e : cutA v = 0 := by
        unfold cutA
        split
        · rfl
        · rw [if_neg (by omega)]; omega
      rw [e] at hK
      simp (decide := true) only [RR, ms_app, toList_some, toList_none, if_true, if_false, true_and, and_true, cond_true, sm0, sm1, sm1l, sm2, lc_lt, lc_gt, lc_eq, Int.toNat_natCast, Int.reduceToNat, Nat.reduceAdd, Nat.reduceEqDiff, Int.reduceLT, Int.reduceEq, Int.reduceNeg, Int.reduceAdd, Int.reduceMul, Nat.reduceMul, ms_n, ms_i, ms_l, ms_p, PX]
      exact hK
    · rw [cutA_id (by omega)] at hK
      simp (decide := true) only [RR, ms_app, toList_some, toList_none, if_true, if_false, true_and, and_true, cond_true, sm0, sm1, sm1l, sm2, lc_lt, lc_gt, lc_eq, Int.toNat_natCast, Int.reduceToNat, Nat.reduceAdd, Nat.reduceEqDiff, Int.reduceLT, Int.reduceEq, Int.reduceNeg, Int.reduceAdd, Int.reduceMul, Nat.reduceMul, ms_n, ms_i, ms_l, ms_p, PX]
      exact hK
theorem x_lookAround28 {C : Ct} {w : Sk} {p : Nat} (hF : Fix σ) (hC : CtV C) (hw : SkV C w) (hp : p < C.1) (hc : CtX σ C) (hs : SkX σ 28 C w) (hK : K none (mj_set (mj_set σ 23 p (around C w true p)) 24 p (around C w false p))) : Mt (d + 2) 99 [.inr (.inr 21), .inl (p : Int), .inr (.inr 28)] σ K := by
  refine Mt.go (lv := [some (.inr (.inr 21)), some (.inl (p : Int)), some (.inr (.inr 28)), none, none, none, none]) rfl rfl rfl ?_
  have n7 := hC.1
  obtain ⟨c1, c2, c3, c4⟩ := hc
  obtain ⟨s1, s2, s3, s4⟩ := hs
  have np := c3 p hp
  have nb := hC.near hp
  have nb2 := hC.2.2.1 p hp
  have ub := pw_128 n7 s2
  have ap : σ 29 p = w.2.1 p := (s4 p hp).1
  have av := (hw.2 p hp).1
  obtain ⟨H1, H2⟩ := andn nb ub
  have H2 : ∀ k, k < C.1 → (bit (i_and (C.2.2.1 p) (i_xor (σ 28 3) (-1))) k = 1 ↔ bit (C.2.2.1 p) k = 1 ∧ w.2.2.1 k ≠ 1) := fun k hk => by
    rw [H2 k (by omega), (s4 k hk).2.1]
  refine At.blk rfl rfl rfl fun sx => ?_
  simp (decide := true) only [RR, ms_app, toList_some, toList_none, if_true, if_false, true_and, and_true, cond_true, sm0, sm1, sm1l, sm2, lc_lt, lc_gt, lc_eq, Int.toNat_natCast, Int.reduceToNat, Nat.reduceAdd, Nat.reduceEqDiff, Int.reduceLT, Int.reduceEq, Int.reduceNeg, Int.reduceAdd, Int.reduceMul, Nat.reduceMul, ms_n, ms_i, ms_l, ms_p, PX, fxX hF, np, ap]
  generalize i_and (C.2.2.1 p) (i_xor (σ 28 3) (-1)) = H at *
  have five : ∀ h0 l0 : Int, (H = 0 → h0 = w.2.1 p ∧ l0 = w.2.1 p) → (H ≠ 0 → h0 = 0 ∧ l0 = 20) → ∀ m k : Nat, C.1 - k = m → k ≤ C.1 → At (d + 1) 99 5 [some (.inr (.inr 21)), some (.inl (p : Int)), some (.inr (.inr 28)), some (.inl H), some (.inl (if arN C w true p k = -1 then h0 else arN C w true p k)), some (.inl (if arN C w false p k = -1 then l0 else arN C w false p k)), some (.inl (k : Int))] [] σ K := by
    intro h0 l0 e0 e1 m
    induction m with
    | zero =>
      intro k hk hk2
      obtain rfl : k = C.1 := by omega
      refine At.blk rfl rfl rfl fun sx => ?_
      simp (decide := true) only [RR, ms_app, toList_some, toList_none, if_true, if_false, true_and, and_true, cond_true, sm0, sm1, sm1l, sm2, lc_lt, lc_gt, lc_eq, Int.toNat_natCast, Int.reduceToNat, Nat.reduceAdd, Nat.reduceEqDiff, Int.reduceLT, Int.reduceEq, Int.reduceNeg, Int.reduceAdd, Int.reduceMul, Nat.reduceMul, ms_n, ms_i, ms_l, ms_p, PX, fxX hF, c1]
      rw [if_neg (by omega)]
      refine At.blk rfl rfl rfl fun sx => ?_
      simp (decide := true) only [RR, ms_app, toList_some, toList_none, if_true, if_false, true_and, and_true, cond_true, sm0, sm1, sm1l, sm2, lc_lt, lc_gt, lc_eq, Int.toNat_natCast, Int.reduceToNat, Nat.reduceAdd, Nat.reduceEqDiff, Int.reduceLT, Int.reduceEq, Int.reduceNeg, Int.reduceAdd, Int.reduceMul, Nat.reduceMul, ms_n, ms_i, ms_l, ms_p, PX, fxX hF]
      refine ⟨⟨by omega, by omega⟩, ⟨by omega, by omega⟩, ?_⟩
      have fin : ∀ mo, ∀ z : Int, (H = 0 → z = w.2.1 p) → (if arN C w mo p C.1 = -1 then z else arN C w mo p C.1) = around C w mo p := by
        intro mo z hz
        unfold around
        by_cases eH : H = 0
        · rw [hz eH]
        · obtain ⟨j, j1, j2⟩ := bit_ex n7 ⟨H1.1, by omega⟩ eH
          have := arN_ne (mo := mo) hw ((H2 j j1).mp j2) C.1 j1 (Nat.le_refl _)
          rw [if_neg this, if_neg this]
      rw [fin true h0 (fun h => (e0 h).1), fin false l0 (fun h => (e0 h).2)]
      exact hK
    | succ m ih =>
      intro k hk hk2
      have hk3 : k < C.1 := by omega
      have ak : σ 29 k = w.2.1 k := (s4 k hk3).1
      have akv := (hw.2 k hk3).1
      have w1 : Unit → w32 ((k : Int) + 1) = ((k + 1 : Nat) : Int) := fun _ => by rw [w32_small (by omega) (by omega)]; omega
      have six : ∀ u v : Int, u = (if arN C w true p (k + 1) = -1 then h0 else arN C w true p (k + 1)) → v = (if arN C w false p (k + 1) = -1 then l0 else arN C w false p (k + 1)) → At (d + 1) 99 6 [some (.inr (.inr 21)), some (.inl (p : Int)), some (.inr (.inr 28)), some (.inl H), some (.inl u), some (.inl v), some (.inl (k : Int))] [] σ K := by
        intro u v hu hv
        refine At.blk rfl rfl rfl fun sx => ?_
        simp (decide := true) only [RR, ms_app, toList_some, toList_none, if_true, if_false, true_and, and_true, cond_true, sm0, sm1, sm1l, sm2, lc_lt, lc_gt, lc_eq, Int.toNat_natCast, Int.reduceToNat, Nat.reduceAdd, Nat.reduceEqDiff, Int.reduceLT, Int.reduceEq, Int.reduceNeg, Int.reduceAdd, Int.reduceMul, Nat.reduceMul, ms_n, ms_i, ms_l, ms_p, PX, w1 ()]
        rw [hu, hv]
        exact ih (k + 1) (by omega) (by omega)
      have hb := H2 k hk3
      have bi : i_and (i_shr H (k : Int)) 1 = bit H k := i_bit H1.1 (by omega) (by omega)
      refine At.blk rfl rfl rfl fun sx => ?_
      simp (decide := true) only [RR, ms_app, toList_some, toList_none, if_true, if_false, true_and, and_true, cond_true, sm0, sm1, sm1l, sm2, lc_lt, lc_gt, lc_eq, Int.toNat_natCast, Int.reduceToNat, Nat.reduceAdd, Nat.reduceEqDiff, Int.reduceLT, Int.reduceEq, Int.reduceNeg, Int.reduceAdd, Int.reduceMul, Nat.reduceMul, ms_n, ms_i, ms_l, ms_p, PX, fxX hF, c1, bi, ak]
      rw [if_pos (by omega)]
      by_cases hh : bit H k = 1
      · rw [if_pos hh]
        have hH : H ≠ 0 := by
          intro e; rw [e, bit_zero] at hh; omega
        obtain ⟨z1, z2⟩ := e1 hH
        have t1 := arN_le (mo := true) (p := p) hw k (by omega)
        have t2 := arN_le (mo := false) (p := p) hw k (by omega)
        unfold arN at six
        rw [if_pos (hb.mp hh), if_pos (hb.mp hh)] at six
        subst z1 z2
        refine ⟨⟨by omega, by omega⟩, ?_⟩
        refine cal_of rfl (x_imaxE ?_)
        simp (decide := true) only [RR, ms_app, toList_some, toList_none, if_true, if_false, true_and, and_true, cond_true, sm0, sm1, sm1l, sm2, lc_lt, lc_gt, lc_eq, Int.toNat_natCast, Int.reduceToNat, Nat.reduceAdd, Nat.reduceEqDiff, Int.reduceLT, Int.reduceEq, Int.reduceNeg, Int.reduceAdd, Int.reduceMul, Nat.reduceMul, ms_n, ms_i, ms_l, ms_p, PX, fxX hF, ak]
        refine ⟨⟨by omega, by omega⟩, ?_⟩
        refine cal_of rfl (x_iminE ?_)
        simp (decide := true) only [RR, ms_app, toList_some, toList_none, if_true, if_false, true_and, and_true, cond_true, sm0, sm1, sm1l, sm2, lc_lt, lc_gt, lc_eq, Int.toNat_natCast, Int.reduceToNat, Nat.reduceAdd, Nat.reduceEqDiff, Int.reduceLT, Int.reduceEq, Int.reduceNeg, Int.reduceAdd, Int.reduceMul, Nat.reduceMul, ms_n, ms_i, ms_l, ms_p, PX, ak]
        refine six _ _ ?_ ?_
        · by_cases h3 : arN C w true p k = -1
          · rw [if_pos h3, if_pos (Or.inl h3), if_neg (by omega : ¬(w.2.1 k = -1))]
            split <;> omega
          · rw [if_neg h3]
            by_cases h4 : arN C w true p k < w.2.1 k
            · rw [if_pos h4, if_pos (Or.inr (Or.inl ⟨rfl, h4⟩)), if_neg (by omega)]
            · rw [if_neg h4]; simp [h3, h4]
        · by_cases h3 : arN C w false p k = -1
          · rw [if_pos h3, if_pos (Or.inl h3), if_neg (by omega : ¬(w.2.1 k = -1))]
            split <;> omega
          · rw [if_neg h3]
            by_cases h4 : w.2.1 k < arN C w false p k
            · rw [if_pos h4, if_pos (Or.inr (Or.inr ⟨rfl, h4⟩)), if_neg (by omega)]
            · rw [if_neg h4]; simp [h3, h4]
      · rw [if_neg hh]
        refine six _ _ ?_ ?_
        · conv => rhs; unfold arN
          rw [if_neg (fun h => hh (hb.mpr h))]
        · conv => rhs; unfold arN
          rw [if_neg (fun h => hh (hb.mpr h))]
  by_cases eH : H = 0
  · rw [if_pos eH]
    refine ⟨⟨by omega, by omega⟩, ⟨by omega, by omega⟩, ?_⟩
    refine At.blk rfl rfl rfl fun sx => ?_
    simp (decide := true) only [RR, ms_app, toList_some, toList_none, if_true, if_false, true_and, and_true, cond_true, sm0, sm1, sm1l, sm2, lc_lt, lc_gt, lc_eq, Int.toNat_natCast, Int.reduceToNat, Nat.reduceAdd, Nat.reduceEqDiff, Int.reduceLT, Int.reduceEq, Int.reduceNeg, Int.reduceAdd, Int.reduceMul, Nat.reduceMul, ms_n, ms_i, ms_l, ms_p, PX, fxX hF, ap]
    rw [if_pos eH]
    refine ⟨⟨by omega, by omega⟩, ?_⟩
    refine At.blk rfl rfl rfl fun sx => ?_
    simp (decide := true) only [RR, ms_app, toList_some, toList_none, if_true, if_false, true_and, and_true, cond_true, sm0, sm1, sm1l, sm2, lc_lt, lc_gt, lc_eq, Int.toNat_natCast, Int.reduceToNat, Nat.reduceAdd, Nat.reduceEqDiff, Int.reduceLT, Int.reduceEq, Int.reduceNeg, Int.reduceAdd, Int.reduceMul, Nat.reduceMul, ms_n, ms_i, ms_l, ms_p, PX]
    exact five _ _ (fun _ => ⟨rfl, rfl⟩) (fun h => absurd eH h) C.1 0 rfl (by omega)
  · rw [if_neg eH]
    refine ⟨⟨by omega, by omega⟩, ?_⟩
    refine At.blk rfl rfl rfl fun sx => ?_
    simp (decide := true) only [RR, ms_app, toList_some, toList_none, if_true, if_false, true_and, and_true, cond_true, sm0, sm1, sm1l, sm2, lc_lt, lc_gt, lc_eq, Int.toNat_natCast, Int.reduceToNat, Nat.reduceAdd, Nat.reduceEqDiff, Int.reduceLT, Int.reduceEq, Int.reduceNeg, Int.reduceAdd, Int.reduceMul, Nat.reduceMul, ms_n, ms_i, ms_l, ms_p, PX]
    refine At.blk rfl rfl rfl fun sx => ?_
    simp (decide := true) only [RR, ms_app, toList_some, toList_none, if_true, if_false, true_and, and_true, cond_true, sm0, sm1, sm1l, sm2, lc_lt, lc_gt, lc_eq, Int.toNat_natCast, Int.reduceToNat, Nat.reduceAdd, Nat.reduceEqDiff, Int.reduceLT, Int.reduceEq, Int.reduceNeg, Int.reduceAdd, Int.reduceMul, Nat.reduceMul, ms_n, ms_i, ms_l, ms_p, PX, fxX hF, ap]
    rw [if_neg eH]
    refine At.blk rfl rfl rfl fun sx => ?_
    simp (decide := true) only [RR, ms_app, toList_some, toList_none, if_true, if_false, true_and, and_true, cond_true, sm0, sm1, sm1l, sm2, lc_lt, lc_gt, lc_eq, Int.toNat_natCast, Int.reduceToNat, Nat.reduceAdd, Nat.reduceEqDiff, Int.reduceLT, Int.reduceEq, Int.reduceNeg, Int.reduceAdd, Int.reduceMul, Nat.reduceMul, ms_n, ms_i, ms_l, ms_p, PX]
    refine At.blk rfl rfl rfl fun sx => ?_
    simp (decide := true) only [RR, ms_app, toList_some, toList_none, if_true, if_false, true_and, and_true, cond_true, sm0, sm1, sm1l, sm2, lc_lt, lc_gt, lc_eq, Int.toNat_natCast, Int.reduceToNat, Nat.reduceAdd, Nat.reduceEqDiff, Int.reduceLT, Int.reduceEq, Int.reduceNeg, Int.reduceAdd, Int.reduceMul, Nat.reduceMul, ms_n, ms_i, ms_l, ms_p, PX]
    exact five _ _ (fun h => absurd h eH) (fun _ => ⟨rfl, rfl⟩) C.1 0 rfl (by omega)
theorem x_lookAround34 {C : Ct} {w : Sk} {p : Nat} (hF : Fix σ) (hC : CtV C) (hw : SkV C w) (hp : p < C.1) (hc : CtX σ C) (hs : SkX σ 34 C w) (hK : K none (mj_set (mj_set σ 23 p (around C w true p)) 24 p (around C w false p))) : Mt (d + 2) 99 [.inr (.inr 21), .inl (p : Int), .inr (.inr 34)] σ K := by
  refine Mt.go (lv := [some (.inr (.inr 21)), some (.inl (p : Int)), some (.inr (.inr 34)), none, none, none, none]) rfl rfl rfl ?_
  have n7 := hC.1
  obtain ⟨c1, c2, c3, c4⟩ := hc
  obtain ⟨s1, s2, s3, s4⟩ := hs
  have np := c3 p hp
  have nb := hC.near hp
  have nb2 := hC.2.2.1 p hp
  have ub := pw_128 n7 s2
  have ap : σ 35 p = w.2.1 p := (s4 p hp).1
  have av := (hw.2 p hp).1
  obtain ⟨H1, H2⟩ := andn nb ub
  have H2 : ∀ k, k < C.1 → (bit (i_and (C.2.2.1 p) (i_xor (σ 34 3) (-1))) k = 1 ↔ bit (C.2.2.1 p) k = 1 ∧ w.2.2.1 k ≠ 1) := fun k hk => by
    rw [H2 k (by omega), (s4 k hk).2.1]
  refine At.blk rfl rfl rfl fun sx => ?_
  simp (decide := true) only [RR, ms_app, toList_some, toList_none, if_true, if_false, true_and, and_true, cond_true, sm0, sm1, sm1l, sm2, lc_lt, lc_gt, lc_eq, Int.toNat_natCast, Int.reduceToNat, Nat.reduceAdd, Nat.reduceEqDiff, Int.reduceLT, Int.reduceEq, Int.reduceNeg, Int.reduceAdd, Int.reduceMul, Nat.reduceMul, ms_n, ms_i, ms_l, ms_p, PX, fxX hF, np, ap]
  generalize i_and (C.2.2.1 p) (i_xor (σ 34 3) (-1)) = H at *
  have five : ∀ h0 l0 : Int, (H = 0 → h0 = w.2.1 p ∧ l0 = w.2.1 p) → (H ≠ 0 → h0 = 0 ∧ l0 = 20) → ∀ m k : Nat, C.1 - k = m → k ≤ C.1 → At (d + 1) 99 5 [some (.inr (.inr 21)), some (.inl (p : Int)), some (.inr (.inr 34)), some (.inl H), some (.inl (if arN C w true p k = -1 then h0 else arN C w true p k)), some (.inl (if arN C w false p k = -1 then l0 else arN C w false p k)), some (.inl (k : Int))] [] σ K := by
    intro h0 l0 e0 e1 m
    induction m with
    | zero =>
      intro k hk hk2
      obtain rfl : k = C.1 := by omega
      refine At.blk rfl rfl rfl fun sx => ?_
      simp (decide := true) only [RR, ms_app, toList_some, toList_none, if_true, if_false, true_and, and_true, cond_true, sm0, sm1, sm1l, sm2, lc_lt, lc_gt, lc_eq, Int.toNat_natCast, Int.reduceToNat, Nat.reduceAdd, Nat.reduceEqDiff, Int.reduceLT, Int.reduceEq, Int.reduceNeg, Int.reduceAdd, Int.reduceMul, Nat.reduceMul, ms_n, ms_i, ms_l, ms_p, PX, fxX hF, c1]
      rw [if_neg (by omega)]
      refine At.blk rfl rfl rfl fun sx => ?_
      simp (decide := true) only [RR, ms_app, toList_some, toList_none, if_true, if_false, true_and, and_true, cond_true, sm0, sm1, sm1l, sm2, lc_lt, lc_gt, lc_eq, Int.toNat_natCast, Int.reduceToNat, Nat.reduceAdd, Nat.reduceEqDiff, Int.reduceLT, Int.reduceEq, Int.reduceNeg, Int.reduceAdd, Int.reduceMul, Nat.reduceMul, ms_n, ms_i, ms_l, ms_p, PX, fxX hF]
      refine ⟨⟨by omega, by omega⟩, ⟨by omega, by omega⟩, ?_⟩
      have fin : ∀ mo, ∀ z : Int, (H = 0 → z = w.2.1 p) → (if arN C w mo p C.1 = -1 then z else arN C w mo p C.1) = around C w mo p := by
        intro mo z hz
        unfold around
        by_cases eH : H = 0
        · rw [hz eH]
        · obtain ⟨j, j1, j2⟩ := bit_ex n7 ⟨H1.1, by omega⟩ eH
          have := arN_ne (mo := mo) hw ((H2 j j1).mp j2) C.1 j1 (Nat.le_refl _)
          rw [if_neg this, if_neg this]
      rw [fin true h0 (fun h => (e0 h).1), fin false l0 (fun h => (e0 h).2)]
      exact hK
    | succ m ih =>
      intro k hk hk2
      have hk3 : k < C.1 := by omega
      have ak : σ 35 k = w.2.1 k := (s4 k hk3).1
      have akv := (hw.2 k hk3).1
      have w1 : Unit → w32 ((k : Int) + 1) = ((k + 1 : Nat) : Int) := fun _ => by rw [w32_small (by omega) (by omega)]; omega
      have six : ∀ u v : Int, u = (if arN C w true p (k + 1) = -1 then h0 else arN C w true p (k + 1)) → v = (if arN C w false p (k + 1) = -1 then l0 else arN C w false p (k + 1)) → At (d + 1) 99 6 [some (.inr (.inr 21)), some (.inl (p : Int)), some (.inr (.inr 34)), some (.inl H), some (.inl u), some (.inl v), some (.inl (k : Int))] [] σ K := by
        intro u v hu hv
        refine At.blk rfl rfl rfl fun sx => ?_
        simp (decide := true) only [RR, ms_app, toList_some, toList_none, if_true, if_false, true_and, and_true, cond_true, sm0, sm1, sm1l, sm2, lc_lt, lc_gt, lc_eq, Int.toNat_natCast, Int.reduceToNat, Nat.reduceAdd, Nat.reduceEqDiff, Int.reduceLT, Int.reduceEq, Int.reduceNeg, Int.reduceAdd, Int.reduceMul, Nat.reduceMul, ms_n, ms_i, ms_l, ms_p, PX, w1 ()]
        rw [hu, hv]
        exact ih (k + 1) (by omega) (by omega)
      have hb := H2 k hk3
      have bi : i_and (i_shr H (k : Int)) 1 = bit H k := i_bit H1.1 (by omega) (by omega)
      refine At.blk rfl rfl rfl fun sx => ?_
      simp (decide := true) only [RR, ms_app, toList_some, toList_none, if_true, if_false, true_and, and_true, cond_true, sm0, sm1, sm1l, sm2, lc_lt, lc_gt, lc_eq, Int.toNat_natCast, Int.reduceToNat, Nat.reduceAdd, Nat.reduceEqDiff, Int.reduceLT, Int.reduceEq, Int.reduceNeg, Int.reduceAdd, Int.reduceMul, Nat.reduceMul, ms_n, ms_i, ms_l, ms_p, PX, fxX hF, c1, bi, ak]
      rw [if_pos (by omega)]
      by_cases hh : bit H k = 1
      · rw [if_pos hh]
        have hH : H ≠ 0 := by
          intro e; rw [e, bit_zero] at hh; omega
        obtain ⟨z1, z2⟩ := e1 hH
        have t1 := arN_le (mo := true) (p := p) hw k (by omega)
        have t2 := arN_le (mo := false) (p := p) hw k (by omega)
        unfold arN at six
        rw [if_pos (hb.mp hh), if_pos (hb.mp hh)] at six
        subst z1 z2
        refine ⟨⟨by omega, by omega⟩, ?_⟩
        refine cal_of rfl (x_imaxE ?_)
        simp (decide := true) only [RR, ms_app, toList_some, toList_none, if_true, if_false, true_and, and_true, cond_true, sm0, sm1, sm1l, sm2, lc_lt, lc_gt, lc_eq, Int.toNat_natCast, Int.reduceToNat, Nat.reduceAdd, Nat.reduceEqDiff, Int.reduceLT, Int.reduceEq, Int.reduceNeg, Int.reduceAdd, Int.reduceMul, Nat.reduceMul, ms_n, ms_i, ms_l, ms_p, PX, fxX hF, ak]
        refine ⟨⟨by omega, by omega⟩, ?_⟩
        refine cal_of rfl (x_iminE ?_)
        simp (decide := true) only [RR, ms_app, toList_some, toList_none, if_true, if_false, true_and, and_true, cond_true, sm0, sm1, sm1l, sm2, lc_lt, lc_gt, lc_eq, Int.toNat_natCast, Int.reduceToNat, Nat.reduceAdd, Nat.reduceEqDiff, Int.reduceLT, Int.reduceEq, Int.reduceNeg, Int.reduceAdd, Int.reduceMul, Nat.reduceMul, ms_n, ms_i, ms_l, ms_p, PX, ak]
        refine six _ _ ?_ ?_
        · by_cases h3 : arN C w true p k = -1
          · rw [if_pos h3, if_pos (Or.inl h3), if_neg (by omega : ¬(w.2.1 k = -1))]
            split <;> omega
          · rw [if_neg h3]
            by_cases h4 : arN C w true p k < w.2.1 k
            · rw [if_pos h4, if_pos (Or.inr (Or.inl ⟨rfl, h4⟩)), if_neg (by omega)]
            · rw [if_neg h4]; simp [h3, h4]
        · by_cases h3 : arN C w false p k = -1
          · rw [if_pos h3, if_pos (Or.inl h3), if_neg (by omega : ¬(w.2.1 k = -1))]
            split <;> omega
          · rw [if_neg h3]
            by_cases h4 : w.2.1 k < arN C w false p k
            · rw [if_pos h4, if_pos (Or.inr (Or.inr ⟨rfl, h4⟩)), if_neg (by omega)]
            · rw [if_neg h4]; simp [h3, h4]
      · rw [if_neg hh]
        refine six _ _ ?_ ?_
        · conv => rhs; unfold arN
          rw [if_neg (fun h => hh (hb.mpr h))]
        · conv => rhs; unfold arN
          rw [if_neg (fun h => hh (hb.mpr h))]
  by_cases eH : H = 0
  · rw [if_pos eH]
    refine ⟨⟨by omega, by omega⟩, ⟨by omega, by omega⟩, ?_⟩
    refine At.blk rfl rfl rfl fun sx => ?_
    simp (decide := true) only [RR, ms_app, toList_some, toList_none, if_true, if_false, true_and, and_true, cond_true, sm0, sm1, sm1l, sm2, lc_lt, lc_gt, lc_eq, Int.toNat_natCast, Int.reduceToNat, Nat.reduceAdd, Nat.reduceEqDiff, Int.reduceLT, Int.reduceEq, Int.reduceNeg, Int.reduceAdd, Int.reduceMul, Nat.reduceMul, ms_n, ms_i, ms_l, ms_p, PX, fxX hF, ap]
    rw [if_pos eH]
    refine ⟨⟨by omega, by omega⟩, ?_⟩
    refine At.blk rfl rfl rfl fun sx => ?_
    simp (decide := true) only [RR, ms_app, toList_some, toList_none, if_true, if_false, true_and, and_true, cond_true, sm0, sm1, sm1l, sm2, lc_lt, lc_gt, lc_eq, Int.toNat_natCast, Int.reduceToNat, Nat.reduceAdd, Nat.reduceEqDiff, Int.reduceLT, Int.reduceEq, Int.reduceNeg, Int.reduceAdd, Int.reduceMul, Nat.reduceMul, ms_n, ms_i, ms_l, ms_p, PX]
    exact five _ _ (fun _ => ⟨rfl, rfl⟩) (fun h => absurd eH h) C.1 0 rfl (by omega)
  · rw [if_neg eH]
    refine ⟨⟨by omega, by omega⟩, ?_⟩
    refine At.blk rfl rfl rfl fun sx => ?_
    simp (decide := true) only [RR, ms_app, toList_some, toList_none, if_true, if_false, true_and, and_true, cond_true, sm0, sm1, sm1l, sm2, lc_lt, lc_gt, lc_eq, Int.toNat_natCast, Int.reduceToNat, Nat.reduceAdd, Nat.reduceEqDiff, Int.reduceLT, Int.reduceEq, Int.reduceNeg, Int.reduceAdd, Int.reduceMul, Nat.reduceMul, ms_n, ms_i, ms_l, ms_p, PX]
    refine At.blk rfl rfl rfl fun sx => ?_
    simp (decide := true) only [RR, ms_app, toList_some, toList_none, if_true, if_false, true_and, and_true, cond_true, sm0, sm1, sm1l, sm2, lc_lt, lc_gt, lc_eq, Int.toNat_natCast, Int.reduceToNat, Nat.reduceAdd, Nat.reduceEqDiff, Int.reduceLT, Int.reduceEq, Int.reduceNeg, Int.reduceAdd, Int.reduceMul, Nat.reduceMul, ms_n, ms_i, ms_l, ms_p, PX, fxX hF, ap]
    rw [if_neg eH]
    refine At.blk rfl rfl rfl fun sx => ?_
    simp (decide := true) only [RR, ms_app, toList_some, toList_none, if_true, if_false, true_and, and_true, cond_true, sm0, sm1, sm1l, sm2, lc_lt, lc_gt, lc_eq, Int.toNat_natCast, Int.reduceToNat, Nat.reduceAdd, Nat.reduceEqDiff, Int.reduceLT, Int.reduceEq, Int.reduceNeg, Int.reduceAdd, Int.reduceMul, Nat.reduceMul, ms_n, ms_i, ms_l, ms_p, PX]
    refine At.blk rfl rfl rfl fun sx => ?_
    simp (decide := true) only [RR, ms_app, toList_some, toList_none, if_true, if_false, true_and, and_true, cond_true, sm0, sm1, sm1l, sm2, lc_lt, lc_gt, lc_eq, Int.toNat_natCast, Int.reduceToNat, Nat.reduceAdd, Nat.reduceEqDiff, Int.reduceLT, Int.reduceEq, Int.reduceNeg, Int.reduceAdd, Int.reduceMul, Nat.reduceMul, ms_n, ms_i, ms_l, ms_p, PX]
    exact five _ _ (fun h => absurd h eH) (fun _ => ⟨rfl, rfl⟩) C.1 0 rfl (by omega)
end
