/-! aunts -/
def auW (w : Sk) (s : Int) : Sk := (w.1, w.2.1, fun j => if bit s j = 1 then 1 else w.2.2.1 j, w.2.2.2.1, w.2.2.2.2)
theorem auW_V {C : Ct} {w : Sk} {s : Int} (h : SkV C w) : SkV C (auW w s) := by
  refine ⟨h.1, fun j hj => ?_⟩
  obtain ⟨a1, a2, a3, a4⟩ := h.2 j hj
  refine ⟨a1, ?_, a3, a4⟩
  show (if bit s j = 1 then 1 else w.2.2.1 j) = 0 ∨ (if bit s j = 1 then 1 else w.2.2.1 j) = 1
  split
  · exact Or.inr rfl
  · exact a2
def freS (C : Ct) (w : Sk) (p : Nat) (s : Int) : Prop := ∀ j, j < C.1 → bit s j = 1 → w.2.2.1 j ≠ 1 ∧ j ≠ p
def clmS (C : Ct) (w : Sk) (p n : Nat) (s : Int) : Prop := ∀ k, k < n → (ntM C (auW w s) (k + 1)).2.1 p < C.2.1
def auQ (C : Ct) (w : Sk) (p n : Nat) (s : Nat) : Prop := freS C w p (s : Int) ∧ clmS C w p n (s : Int)
def aunR (C : Ct) (w : Sk) (a n v : Int) : Prop := ((0 ≤ a ∧ a < C.1) ∧ (1 ≤ n ∧ n ≤ 30 ∧ w.1 + n ≤ 999) → Bst (2 ^ C.1) 3 (auQ C w a.toNat n.toNat) v) ∧ (¬((0 ≤ a ∧ a < C.1) ∧ (1 ≤ n ∧ n ≤ 30 ∧ w.1 + n ≤ 999)) → v = -1)
theorem aunR_uniq {C : Ct} {w : Sk} {a n : Int} (u v : Int) (h : aunR C w a n u) (h2 : aunR C w a n v) : u = v := by
  by_cases e : (0 ≤ a ∧ a < C.1) ∧ (1 ≤ n ∧ n ≤ 30 ∧ w.1 + n ≤ 999)
  · exact (h.1 e).uniq (h2.1 e)
  · rw [h.2 e, h2.2 e]
/-- barred sets: a row of bits m -/
theorem fre_iff {C : Ct} {w : Sk} {p s : Nat} {m : Int} (hC : C.1 ≤ 7) (hs : s < 2 ^ C.1) (hm : 0 ≤ m ∧ m < 128) (hb : ∀ j, j < C.1 → (bit m j = 1 ↔ w.2.2.1 j = 1 ∨ j = p)) : i_and (s : Int) m = 0 ↔ freS C w p (s : Int) := by
  have h7 := pwN7 C.1 hC
  rw [and_zero (by omega) hm]
  constructor
  · intro h j hj h1
    have h2 := h j (by omega) h1
    have h3 := hb j hj
    refine ⟨fun e => h2 (h3.mpr (Or.inl e)), fun e => h2 (h3.mpr (Or.inr e))⟩
  · intro h k hk h1 h2
    by_cases e : k < C.1
    · obtain ⟨h3, h4⟩ := h k e h1
      rcases (hb k e).mp h2 with h5 | h5
      · exact h3 h5
      · exact h4 h5
    · have : bit (s : Int) k = 0 := bit_hi (n := C.1) (by rw [← pw_cast]; omega) (by omega)
      omega
section
variable {d : Nat} {σ σ0 : mM} {K : Option mV → mM → Prop} {C : Ct} {w : Sk} {l : Kp}
theorem SkX.aunt {s : Nat} (h : SkX σ 34 C w) (hC : C.1 ≤ 7) (hs : s < 2 ^ C.1) : SkX (mj_set σ 34 3 (i_or (σ 34 3) (s : Int))) 34 C (auW w (s : Int)) := by
  have h7 := pwN7 C.1 hC
  obtain ⟨h1, h2, h3, h4⟩ := h
  have h2' := pw_128 hC h2
  obtain ⟨o1, o2⟩ := or_bits h2' (b := (s : Int)) (by omega)
  have hlt : i_or (σ 34 3) (s : Int) < 2 ^ C.1 := by
    obtain ⟨a, ha⟩ := Int.eq_ofNat_of_zero_le h2.1
    have h2b := h2.2
    rw [ha, ← pw_cast] at h2b
    rw [ha, i_or_nat (by omega) (by omega), ← pw_cast]
    have := Nat.or_lt_two_pow (show a < 2 ^ C.1 by omega) hs
    omega
  refine ⟨h1, ?_, h3, fun j hj => ?_⟩
  · rw [ms_app, if_pos rfl, if_pos rfl]; exact ⟨o1.1, hlt⟩
  · obtain ⟨a1, a2, a3, a4⟩ := h4 j hj
    refine ⟨a1, ?_, a3, a4⟩
    rw [ms_app, if_pos rfl, if_pos rfl]
    show _ = if bit (s : Int) j = 1 then 1 else w.2.2.1 j
    have o3 := o2 j (by omega)
    have b1 := bit01 (v := i_or (σ 34 3) (s : Int)) (p := j)
    have b2 := bit01 (v := σ 34 3) (p := j)
    split
    · rename_i e; exact o3.mpr (Or.inr e)
    · rename_i e
      rw [← a2]
      by_cases e2 : bit (σ 34 3) j = 1
      · rw [e2]; exact o3.mpr (Or.inl e2)
      · have : bit (i_or (σ 34 3) (s : Int)) j ≠ 1 := fun h => (o3.mp h).elim e2 e
        omega
theorem x_keepsGaleOff {p n s : Nat} (hF : Fix σ) (hC : CtV C) (hp : p < C.1) (hs : s < 2 ^ C.1) (hcx : CtX σ C) (hw : SkV C w) (hsx : SkX σ 28 C w) (hn : n ≤ 30) (h9 : w.1 + n ≤ 999) (h1 : ∀ σ', Fr xrL xrT σ σ' → clmS C w p n (s : Int) → K (some (.inl 1)) σ') (h0 : ∀ σ', Fr xrL xrT σ σ' → ¬clmS C w p n (s : Int) → K (some (.inl 0)) σ') : Mt (d + 5) 23 [.inr (.inr 33), .inl (p : Int), .inl (n : Int), .inl (s : Int)] σ K := by
  refine Mt.go (lv := [some (.inr (.inr 33)), some (.inl (p : Int)), some (.inl (n : Int)), some (.inl (s : Int)), none]) rfl rfl rfl ?_
  have n7 := hC.1
  refine At.blk rfl rfl rfl fun sx => ?_
  simp (decide := true) only [RR, ms_app, toList_some, toList_none, if_true, if_false, true_and, and_true, cond_true, sm0, sm1, sm1l, sm2, lc_lt, lc_gt, lc_eq, Int.toNat_natCast, Int.reduceToNat, Nat.reduceAdd, Nat.reduceEqDiff, Int.reduceLT, Int.reduceEq, Int.reduceNeg, Int.reduceAdd, Int.reduceMul, Nat.reduceMul, ms_n, ms_i, ms_l, ms_p, PX, fxX hF]
  refine cal_of rfl (x_skyCopy hF rfl rfl (by omega) ?_)
  have f0 : Fr xrL xrT σ (skyC σ 34 28) := Fr.copy.mono rfl
  have hF0 := hF.fr f0 rfl
  have s0 := (hsx.copy n7).aunt n7 hs
  generalize skyC σ 34 28 = σ1 at *
  simp (decide := true) only [RR, ms_app, toList_some, toList_none, if_true, if_false, true_and, and_true, cond_true, sm0, sm1, sm1l, sm2, lc_lt, lc_gt, lc_eq, Int.toNat_natCast, Int.reduceToNat, Nat.reduceAdd, Nat.reduceEqDiff, Int.reduceLT, Int.reduceEq, Int.reduceNeg, Int.reduceAdd, Int.reduceMul, Nat.reduceMul, ms_n, ms_i, ms_l, ms_p, PX, fxX hF0]
  have hwu : SkV C (auW w (s : Int)) := auW_V hw
  have loop : ∀ m k : Nat, n - k = m → k ≤ n → ∀ σ', Fr xrL xrT σ σ' → SkX σ' 34 C (ntM C (auW w (s : Int)) k) → clmS C w p k (s : Int) → At (d + 4) 23 1 [some (.inr (.inr 33)), some (.inl (p : Int)), some (.inl (n : Int)), some (.inl (s : Int)), some (.inl (k : Int))] [] σ' K := by
    intro m
    induction m with
    | zero =>
      intro k hk hk2 σ' fr sk hc
      obtain rfl : k = n := by omega
      refine At.blk rfl rfl rfl fun sx => ?_
      simp (decide := true) only [RR, ms_app, toList_some, toList_none, if_true, if_false, true_and, and_true, cond_true, sm0, sm1, sm1l, sm2, lc_lt, lc_gt, lc_eq, Int.toNat_natCast, Int.reduceToNat, Nat.reduceAdd, Nat.reduceEqDiff, Int.reduceLT, Int.reduceEq, Int.reduceNeg, Int.reduceAdd, Int.reduceMul, Nat.reduceMul, ms_n, ms_i, ms_l, ms_p, PX]
      rw [if_neg (by omega)]
      refine At.blk rfl rfl rfl fun sx => ?_
      simp (decide := true) only [RR, ms_app, toList_some, toList_none, if_true, if_false, true_and, and_true, cond_true, sm0, sm1, sm1l, sm2, lc_lt, lc_gt, lc_eq, Int.toNat_natCast, Int.reduceToNat, Nat.reduceAdd, Nat.reduceEqDiff, Int.reduceLT, Int.reduceEq, Int.reduceNeg, Int.reduceAdd, Int.reduceMul, Nat.reduceMul, ms_n, ms_i, ms_l, ms_p, PX]
      exact h1 σ' fr hc
    | succ m ih =>
      intro k hk hk2 σ' fr sk hc
      have hF' := hF.fr fr rfl
      have c8 := hcx.xr fr
      have wn : (ntM C (auW w (s : Int)) k).1 = w.1 + k := ntM_night (C := C) (w := auW w (s : Int)) k
      have hwk := ntM_V hwu k (by show w.1 + (k : Int) ≤ 5000; omega)
      have w1 : Unit → w32 ((k : Int) + 1) = ((k + 1 : Nat) : Int) := fun _ => by rw [w32_small (by omega) (by omega)]; omega
      refine At.blk rfl rfl rfl fun sx => ?_
      simp (decide := true) only [RR, ms_app, toList_some, toList_none, if_true, if_false, true_and, and_true, cond_true, sm0, sm1, sm1l, sm2, lc_lt, lc_gt, lc_eq, Int.toNat_natCast, Int.reduceToNat, Nat.reduceAdd, Nat.reduceEqDiff, Int.reduceLT, Int.reduceEq, Int.reduceNeg, Int.reduceAdd, Int.reduceMul, Nat.reduceMul, ms_n, ms_i, ms_l, ms_p, PX, fxX hF']
      rw [if_pos (by omega)]
      refine cal_of rfl (x_foresee34 hF' hC hwk c8 sk (fun σ2 f2 hE h2 => ?_))
      have hF2 := hF'.fr f2 rfl
      simp (decide := true) only [RR, ms_app, toList_some, toList_none, if_true, if_false, true_and, and_true, cond_true, sm0, sm1, sm1l, sm2, lc_lt, lc_gt, lc_eq, Int.toNat_natCast, Int.reduceToNat, Nat.reduceAdd, Nat.reduceEqDiff, Int.reduceLT, Int.reduceEq, Int.reduceNeg, Int.reduceAdd, Int.reduceMul, Nat.reduceMul, ms_n, ms_i, ms_l, ms_p, PX, fxX hF2]
      refine cal_of rfl (x_pass34 hF2 hC hwk (c8.xw f2) (sk.xw34 f2) (fun p hp => (h2 p hp).2.2) (fun σ3 f3 s3 => ?_))
      rw [nxC_eq (by omega)] at s3
      have F3 : Fr xrL xrT σ σ3 := (fr.trans (f2.mono rfl)).trans (f3.mono rfl)
      have hF3 := hF.fr F3 rfl
      have ep : σ3 35 p = (ntM C (auW w (s : Int)) (k + 1)).2.1 p := (s3.2.2.2 p hp).1
      simp (decide := true) only [RR, ms_app, toList_some, toList_none, if_true, if_false, true_and, and_true, cond_true, sm0, sm1, sm1l, sm2, lc_lt, lc_gt, lc_eq, Int.toNat_natCast, Int.reduceToNat, Nat.reduceAdd, Nat.reduceEqDiff, Int.reduceLT, Int.reduceEq, Int.reduceNeg, Int.reduceAdd, Int.reduceMul, Nat.reduceMul, ms_n, ms_i, ms_l, ms_p, PX, fxX hF3, ep, (hcx.xr F3).2.1]
      refine ⟨⟨by omega, by omega⟩, ?_⟩
      by_cases g : (ntM C (auW w (s : Int)) (k + 1)).2.1 p < C.2.1
      · rw [if_pos g]
        refine At.blk rfl rfl rfl fun sx => ?_
        simp (decide := true) only [RR, ms_app, toList_some, toList_none, if_true, if_false, true_and, and_true, cond_true, sm0, sm1, sm1l, sm2, lc_lt, lc_gt, lc_eq, Int.toNat_natCast, Int.reduceToNat, Nat.reduceAdd, Nat.reduceEqDiff, Int.reduceLT, Int.reduceEq, Int.reduceNeg, Int.reduceAdd, Int.reduceMul, Nat.reduceMul, ms_n, ms_i, ms_l, ms_p, PX, w1 ()]
        refine ih (k + 1) (by omega) (by omega) σ3 F3 s3 (fun j hj => ?_)
        by_cases e : j = k
        · rw [e]; exact g
        · exact hc j (by omega)
      · rw [if_neg g]
        first | exact h0 σ3 F3 (fun h => g (h k (by omega))) | exact ⟨Or.inl rfl, h0 σ3 F3 (fun h => g (h k (by omega)))⟩
  exact loop n 0 rfl (by omega) _ (f0.set rfl) s0 (fun k hk => absurd hk (by omega))
theorem x_fewestAunts {p n : Nat} (hF : Fix σ) (hC : CtV C) (hp : p < C.1) (hcx : CtX σ C) (hw : SkV C w) (hsx : SkX σ 28 C w) (hn : n ≤ 30) (h9 : w.1 + n ≤ 999) (hK : ∀ σ' v, Fr xrL xrT σ σ' → Bst (2 ^ C.1) 3 (auQ C w p n) v → K (some (.inl v)) σ') : Mt (d + 6) 22 [.inr (.inr 33), .inl (p : Int), .inl (n : Int)] σ K := by
  refine Mt.go (lv := [some (.inr (.inr 33)), some (.inl (p : Int)), some (.inl (n : Int)), none, none, none]) rfl rfl rfl ?_
  have n7 := hC.1
  have h7 := pwN7 C.1 n7
  obtain ⟨q1, q2⟩ := one_shl p (by omega)
  obtain ⟨r1, -⟩ := one_shl C.1 (by omega)
  have hp7 := pwN7 p (by omega)
  have u3 := pw_128 n7 hsx.2.1
  have pp : 2 ^ p < 128 := Nat.lt_of_lt_of_le (Nat.pow_lt_pow_right (by decide) hp) h7
  obtain ⟨o1, o2⟩ := or_bits u3 (b := ((2 ^ p : Nat) : Int)) ⟨Int.natCast_nonneg _, by omega⟩
  have hM : ∀ j, j < C.1 → (bit (i_or (σ 28 3) ((2 ^ p : Nat) : Int)) j = 1 ↔ w.2.2.1 j = 1 ∨ j = p) := fun j hj => by
    rw [o2 j (by omega), q2 j (by omega), (hsx.2.2.2 j hj).2.1]
  refine At.blk rfl rfl rfl fun sx => ?_
  simp (decide := true) only [RR, ms_app, toList_some, toList_none, if_true, if_false, true_and, and_true, cond_true, sm0, sm1, sm1l, sm2, lc_lt, lc_gt, lc_eq, Int.toNat_natCast, Int.reduceToNat, Nat.reduceAdd, Nat.reduceEqDiff, Int.reduceLT, Int.reduceEq, Int.reduceNeg, Int.reduceAdd, Int.reduceMul, Nat.reduceMul, ms_n, ms_i, ms_l, ms_p, PX, fxX hF, q1]
  generalize i_or (σ 28 3) ((2 ^ p : Nat) : Int) = M at *
  have loop : ∀ m z : Nat, 4 - z = m → z ≤ 4 → ∀ (σ' : mM) (o5 : Option mV), Fr xrL xrT σ σ' → BsL (2 ^ C.1) (auQ C w p n) (z : Int) 0 → At (d + 5) 22 1 [some (.inr (.inr 33)), some (.inl (p : Int)), some (.inl (n : Int)), some (.inl M), some (.inl (z : Int)), o5] [] σ' K := by
    intro m
    induction m with
    | zero =>
      intro z hz hz2 σ' o5 fr hb
      obtain rfl : z = 4 := by omega
      refine At.blk rfl rfl rfl fun sx => ?_
      simp (decide := true) only [RR, ms_app, toList_some, toList_none, if_true, if_false, true_and, and_true, cond_true, sm0, sm1, sm1l, sm2, lc_lt, lc_gt, lc_eq, Int.toNat_natCast, Int.reduceToNat, Nat.reduceAdd, Nat.reduceEqDiff, Int.reduceLT, Int.reduceEq, Int.reduceNeg, Int.reduceAdd, Int.reduceMul, Nat.reduceMul, ms_n, ms_i, ms_l, ms_p, PX]
      refine At.blk rfl rfl rfl fun sx => ?_
      simp (decide := true) only [RR, ms_app, toList_some, toList_none, if_true, if_false, true_and, and_true, cond_true, sm0, sm1, sm1l, sm2, lc_lt, lc_gt, lc_eq, Int.toNat_natCast, Int.reduceToNat, Nat.reduceAdd, Nat.reduceEqDiff, Int.reduceLT, Int.reduceEq, Int.reduceNeg, Int.reduceAdd, Int.reduceMul, Nat.reduceMul, ms_n, ms_i, ms_l, ms_p, PX]
      exact hK σ' _ fr (hb.none (by decide))
    | succ m ih =>
      intro z hz hz2 σ' o5 fr hb
      have w2 : Unit → w32 ((z : Int) + 1) = ((z + 1 : Nat) : Int) := fun _ => by rw [w32_small (by omega) (by omega)]; omega
      refine At.blk rfl rfl rfl fun sx => ?_
      simp (decide := true) only [RR, ms_app, toList_some, toList_none, if_true, if_false, true_and, and_true, cond_true, sm0, sm1, sm1l, sm2, lc_lt, lc_gt, lc_eq, Int.toNat_natCast, Int.reduceToNat, Nat.reduceAdd, Nat.reduceEqDiff, Int.reduceLT, Int.reduceEq, Int.reduceNeg, Int.reduceAdd, Int.reduceMul, Nat.reduceMul, ms_n, ms_i, ms_l, ms_p, PX]
      rw [if_neg (by omega)]
      have loop2 : ∀ m s : Nat, 2 ^ C.1 - s = m → s ≤ 2 ^ C.1 → ∀ σ', Fr xrL xrT σ σ' → BsL (2 ^ C.1) (auQ C w p n) (z : Int) s → At (d + 5) 22 2 [some (.inr (.inr 33)), some (.inl (p : Int)), some (.inl (n : Int)), some (.inl M), some (.inl (z : Int)), some (.inl (s : Int))] [] σ' K := by
        intro m
        induction m with
        | zero =>
          intro s hs hs2 σ' fr hb
          obtain rfl : s = 2 ^ C.1 := by omega
          have hF' := hF.fr fr rfl
          refine At.blk rfl rfl rfl fun sx => ?_
          simp (decide := true) only [RR, ms_app, toList_some, toList_none, if_true, if_false, true_and, and_true, cond_true, sm0, sm1, sm1l, sm2, lc_lt, lc_gt, lc_eq, Int.toNat_natCast, Int.reduceToNat, Nat.reduceAdd, Nat.reduceEqDiff, Int.reduceLT, Int.reduceEq, Int.reduceNeg, Int.reduceAdd, Int.reduceMul, Nat.reduceMul, ms_n, ms_i, ms_l, ms_p, PX, fxX hF', (hcx.xr fr).1, r1]
          rw [if_neg (by omega)]
          refine At.blk rfl rfl rfl fun sx => ?_
          simp (decide := true) only [RR, ms_app, toList_some, toList_none, if_true, if_false, true_and, and_true, cond_true, sm0, sm1, sm1l, sm2, lc_lt, lc_gt, lc_eq, Int.toNat_natCast, Int.reduceToNat, Nat.reduceAdd, Nat.reduceEqDiff, Int.reduceLT, Int.reduceEq, Int.reduceNeg, Int.reduceAdd, Int.reduceMul, Nat.reduceMul, ms_n, ms_i, ms_l, ms_p, PX, w2 ()]
          refine ih (z + 1) (by omega) (by omega) σ' _ fr ?_
          have := hb.up
          rw [show ((z + 1 : Nat) : Int) = (z : Int) + 1 by omega]
          exact this
        | succ m ih2 =>
          intro s hs hs2 σ' fr hb
          have hs3 : s < 2 ^ C.1 := by omega
          have hF' := hF.fr fr rfl
          have w1 : Unit → w32 ((s : Int) + 1) = ((s + 1 : Nat) : Int) := fun _ => by rw [w32_small (by omega) (by omega)]; omega
          have three : ∀ σ', Fr xrL xrT σ σ' → (bcF (s : Int) = (z : Int) → ¬auQ C w p n s) → At (d + 5) 22 3 [some (.inr (.inr 33)), some (.inl (p : Int)), some (.inl (n : Int)), some (.inl M), some (.inl (z : Int)), some (.inl (s : Int))] [] σ' K := by
            intro σ' fr hno
            refine At.blk rfl rfl rfl fun sx => ?_
            simp (decide := true) only [RR, ms_app, toList_some, toList_none, if_true, if_false, true_and, and_true, cond_true, sm0, sm1, sm1l, sm2, lc_lt, lc_gt, lc_eq, Int.toNat_natCast, Int.reduceToNat, Nat.reduceAdd, Nat.reduceEqDiff, Int.reduceLT, Int.reduceEq, Int.reduceNeg, Int.reduceAdd, Int.reduceMul, Nat.reduceMul, ms_n, ms_i, ms_l, ms_p, PX, w1 ()]
            exact ih2 (s + 1) (by omega) (by omega) σ' fr (hb.no hno)
          refine At.blk rfl rfl rfl fun sx => ?_
          simp (decide := true) only [RR, ms_app, toList_some, toList_none, if_true, if_false, true_and, and_true, cond_true, sm0, sm1, sm1l, sm2, lc_lt, lc_gt, lc_eq, Int.toNat_natCast, Int.reduceToNat, Nat.reduceAdd, Nat.reduceEqDiff, Int.reduceLT, Int.reduceEq, Int.reduceNeg, Int.reduceAdd, Int.reduceMul, Nat.reduceMul, ms_n, ms_i, ms_l, ms_p, PX, fxX hF', (hcx.xr fr).1, r1]
          rw [if_pos (by omega)]
          refine cal_of rfl (x_bitCount ?_)
          simp (decide := true) only [RR, ms_app, toList_some, toList_none, if_true, if_false, true_and, and_true, cond_true, sm0, sm1, sm1l, sm2, lc_lt, lc_gt, lc_eq, Int.toNat_natCast, Int.reduceToNat, Nat.reduceAdd, Nat.reduceEqDiff, Int.reduceLT, Int.reduceEq, Int.reduceNeg, Int.reduceAdd, Int.reduceMul, Nat.reduceMul, ms_n, ms_i, ms_l, ms_p, PX]
          by_cases e1 : bcF (s : Int) = (z : Int)
          · rw [if_pos e1]
            have hfre := fre_iff (w := w) (p := p) n7 hs3 o1 hM
            by_cases e2 : i_and (s : Int) M = 0
            · rw [if_pos e2]
              refine cal_of rfl (x_keepsGaleOff hF' hC hp hs3 (hcx.xr fr) hw (hsx.xr fr) hn h9 (fun σ2 f2 hc => ?_) (fun σ2 f2 hc => ?_))
              · simp (decide := true) only [RR, ms_app, toList_some, toList_none, if_true, if_false, true_and, and_true, cond_true, sm0, sm1, sm1l, sm2, lc_lt, lc_gt, lc_eq, Int.toNat_natCast, Int.reduceToNat, Nat.reduceAdd, Nat.reduceEqDiff, Int.reduceLT, Int.reduceEq, Int.reduceNeg, Int.reduceAdd, Int.reduceMul, Nat.reduceMul, ms_n, ms_i, ms_l, ms_p, PX]
                exact hK σ2 _ (fr.trans f2) (hb.found hs3 e1 (by omega) ⟨hfre.mp e2, hc⟩)
              · simp (decide := true) only [RR, ms_app, toList_some, toList_none, if_true, if_false, true_and, and_true, cond_true, sm0, sm1, sm1l, sm2, lc_lt, lc_gt, lc_eq, Int.toNat_natCast, Int.reduceToNat, Nat.reduceAdd, Nat.reduceEqDiff, Int.reduceLT, Int.reduceEq, Int.reduceNeg, Int.reduceAdd, Int.reduceMul, Nat.reduceMul, ms_n, ms_i, ms_l, ms_p, PX]
                exact three σ2 (fr.trans f2) (fun _ h => hc h.2)
            · rw [if_neg e2]
              exact three σ' fr (fun _ h => e2 (hfre.mpr h.1))
          · rw [if_neg e1]
            exact three σ' fr (fun h => absurd h e1)
      exact loop2 (2 ^ C.1) 0 rfl (Nat.zero_le _) σ' fr hb
  exact loop 4 0 rfl (by omega) σ none Fr.same (fun t ht hc => by
    have := bc_le C.1 (by omega) t ht
    omega)
theorem x_aunts {a n : Int} (hF : Fix σ) (hW : Wrl σ C w l) (hK : ∀ σ' v, Fr xrL xrT σ σ' → aunR C w a n v → K (some (.inl v)) σ') : Mt (d + 7) 119 [.inr (.inr 0), .inl a, .inl n] σ K := by
  refine Mt.go (lv := [some (.inr (.inr 0)), some (.inl a), some (.inl n)]) rfl rfl rfl ?_
  obtain ⟨hC, hcx, hcm, hw, hsx, hsm, hkx, hkm, hkv, h9⟩ := hW
  have n7 := hC.1
  have en : σ 28 2 = w.1 := hsx.1
  have no : ¬((0 ≤ a ∧ a < C.1) ∧ (1 ≤ n ∧ n ≤ 30 ∧ w.1 + n ≤ 999)) → At (d + 6) 119 1 [some (.inr (.inr 0)), some (.inl a), some (.inl n)] [] σ K := by
    intro h
    refine At.blk rfl rfl rfl fun sx => ?_
    simp (decide := true) only [RR, ms_app, toList_some, toList_none, if_true, if_false, true_and, and_true, cond_true, sm0, sm1, sm1l, sm2, lc_lt, lc_gt, lc_eq, Int.toNat_natCast, Int.reduceToNat, Nat.reduceAdd, Nat.reduceEqDiff, Int.reduceLT, Int.reduceEq, Int.reduceNeg, Int.reduceAdd, Int.reduceMul, Nat.reduceMul, ms_n, ms_i, ms_l, ms_p, PX]
    exact hK σ _ Fr.same ⟨fun h2 => absurd h2 h, fun _ => rfl⟩
  refine At.blk rfl rfl rfl fun sx => ?_
  simp (decide := true) only [RR, ms_app, toList_some, toList_none, if_true, if_false, true_and, and_true, cond_true, sm0, sm1, sm1l, sm2, lc_lt, lc_gt, lc_eq, Int.toNat_natCast, Int.reduceToNat, Nat.reduceAdd, Nat.reduceEqDiff, Int.reduceLT, Int.reduceEq, Int.reduceNeg, Int.reduceAdd, Int.reduceMul, Nat.reduceMul, ms_n, ms_i, ms_l, ms_p, PX, fxX hF]
  refine cal_of rfl (x_holds3 (fun hh => ?_) (fun hh => ?_))
  · rw [hcx.1] at hh
    simp (decide := true) only [RR, ms_app, toList_some, toList_none, if_true, if_false, true_and, and_true, cond_true, sm0, sm1, sm1l, sm2, lc_lt, lc_gt, lc_eq, Int.toNat_natCast, Int.reduceToNat, Nat.reduceAdd, Nat.reduceEqDiff, Int.reduceLT, Int.reduceEq, Int.reduceNeg, Int.reduceAdd, Int.reduceMul, Nat.reduceMul, ms_n, ms_i, ms_l, ms_p, PX, fxX hF]
    refine cal_of rfl (x_canCome hF (by omega) (by decide) (fun h1 => ?_) (fun h1 => ?_))
    · rw [en] at h1
      obtain ⟨p, rfl⟩ := Int.eq_ofNat_of_zero_le hh.1
      obtain ⟨n, rfl⟩ := Int.eq_ofNat_of_zero_le (show 0 ≤ n by omega)
      simp (decide := true) only [RR, ms_app, toList_some, toList_none, if_true, if_false, true_and, and_true, cond_true, sm0, sm1, sm1l, sm2, lc_lt, lc_gt, lc_eq, Int.toNat_natCast, Int.reduceToNat, Nat.reduceAdd, Nat.reduceEqDiff, Int.reduceLT, Int.reduceEq, Int.reduceNeg, Int.reduceAdd, Int.reduceMul, Nat.reduceMul, ms_n, ms_i, ms_l, ms_p, PX]
      refine At.blk rfl rfl rfl fun sx => ?_
      simp (decide := true) only [RR, ms_app, toList_some, toList_none, if_true, if_false, true_and, and_true, cond_true, sm0, sm1, sm1l, sm2, lc_lt, lc_gt, lc_eq, Int.toNat_natCast, Int.reduceToNat, Nat.reduceAdd, Nat.reduceEqDiff, Int.reduceLT, Int.reduceEq, Int.reduceNeg, Int.reduceAdd, Int.reduceMul, Nat.reduceMul, ms_n, ms_i, ms_l, ms_p, PX, fxX hF]
      refine cal_of rfl (x_fewestAunts hF hC (by omega) hcx hw hsx (by omega) (by omega) (fun σ1 v f1 hb => ?_))
      simp (decide := true) only [RR, ms_app, toList_some, toList_none, if_true, if_false, true_and, and_true, cond_true, sm0, sm1, sm1l, sm2, lc_lt, lc_gt, lc_eq, Int.toNat_natCast, Int.reduceToNat, Nat.reduceAdd, Nat.reduceEqDiff, Int.reduceLT, Int.reduceEq, Int.reduceNeg, Int.reduceAdd, Int.reduceMul, Nat.reduceMul, ms_n, ms_i, ms_l, ms_p, PX]
      exact hK σ1 v f1 ⟨fun _ => by rw [Int.toNat_natCast, Int.toNat_natCast]; exact hb, fun h => absurd (by omega) h⟩
    · rw [en] at h1
      simp (decide := true) only [RR, ms_app, toList_some, toList_none, if_true, if_false, true_and, and_true, cond_true, sm0, sm1, sm1l, sm2, lc_lt, lc_gt, lc_eq, Int.toNat_natCast, Int.reduceToNat, Nat.reduceAdd, Nat.reduceEqDiff, Int.reduceLT, Int.reduceEq, Int.reduceNeg, Int.reduceAdd, Int.reduceMul, Nat.reduceMul, ms_n, ms_i, ms_l, ms_p, PX]
      exact no (by omega)
  · rw [hcx.1] at hh
    simp (decide := true) only [RR, ms_app, toList_some, toList_none, if_true, if_false, true_and, and_true, cond_true, sm0, sm1, sm1l, sm2, lc_lt, lc_gt, lc_eq, Int.toNat_natCast, Int.reduceToNat, Nat.reduceAdd, Nat.reduceEqDiff, Int.reduceLT, Int.reduceEq, Int.reduceNeg, Int.reduceAdd, Int.reduceMul, Nat.reduceMul, ms_n, ms_i, ms_l, ms_p, PX]
    exact no (by omega)
/-! the model's -/
theorem m_isCalm {p n : Nat} {u : Sk} {s : Int} (hF : Fix σ) (hC : CtV C) (hp : p < C.1) (hn : n ≤ 30) (hw : SkV C w) (h9 : w.1 + n ≤ 999) (hcm : CtM σ0 C) (hT : Th σ0 σ) (hsm : SkM σ C (auW w s)) (h0 : SkM σ0 C u) (hK : ∀ σ' v, Th σ0 σ' → SkM σ' C u → (v = 1 ∧ clmS C w p n s ∨ v = 0 ∧ ¬clmS C w p n s) → K (some (.inl v)) σ') : Mt (d + 10) 213 [.inr (.inr 146), .inl (p : Int), .inl (n : Int)] σ K := by
  refine Mt.go (lv := [some (.inr (.inr 146)), some (.inl (p : Int)), some (.inl (n : Int)), none, none]) rfl rfl rfl ?_
  have n7 := hC.1
  have hwu : SkV C (auW w s) := auW_V hw
  have four : ∀ (σ' : mM) (v k : Int), Th σ0 σ' → (v = 1 ∧ clmS C w p n s ∨ v = 0 ∧ ¬clmS C w p n s) → At (d + 9) 213 4 [some (.inr (.inr 146)), some (.inl (p : Int)), some (.inl (n : Int)), some (.inl v), some (.inl k)] [] σ' K := by
    intro σ' v k t hv
    have hF' : Fix σ' := (hF.row (fun q k hq hf => rfl)).row (fun q k hq hf => by
      have h1 := t.1 q k
      have h2 := hT.1 q k
      have e : (thL.elem q || thT.elem (q, k)) = false := by
        cases e1 : thL.elem q
        · cases e2 : thT.elem (q, k)
          · rfl
          · have : (!(fixS q k)) = true := elem_all2 (P := fun p => !(fixS p.1 p.2)) (l := thT) rfl e2
            rw [hf] at this; cases this
        · have := nofix (k := k) (elem_all (P := nofB) (l := thL) rfl e1)
          rw [hf] at this; cases this
      rw [h1 e, h2 e])
    refine At.blk rfl rfl rfl fun sx => ?_
    simp (decide := true) only [RR, ms_app, toList_some, toList_none, if_true, if_false, true_and, and_true, cond_true, sm0, sm1, sm1l, sm2, lc_lt, lc_gt, lc_eq, Int.toNat_natCast, Int.reduceToNat, Nat.reduceAdd, Nat.reduceEqDiff, Int.reduceLT, Int.reduceEq, Int.reduceNeg, Int.reduceAdd, Int.reduceMul, Nat.reduceMul, ms_n, ms_i, ms_l, ms_p, PM]
    refine cal_of rfl (m_triesAnew hF' t (fun σ2 f2 e2 z2 => ?_))
    have k1 := hK σ2 v (t.again f2 e2) (h0.eq e2 n7) hv
    rcases hv with ⟨rfl, _⟩ | ⟨rfl, _⟩
    · simp (decide := true) only [RR, ms_app, toList_some, toList_none, if_true, if_false, true_and, and_true, cond_true, sm0, sm1, sm1l, sm2, lc_lt, lc_gt, lc_eq, Int.toNat_natCast, Int.reduceToNat, Nat.reduceAdd, Nat.reduceEqDiff, Int.reduceLT, Int.reduceEq, Int.reduceNeg, Int.reduceAdd, Int.reduceMul, Nat.reduceMul, ms_n, ms_i, ms_l, ms_p, PM]
      exact k1
    · simp (decide := true) only [RR, ms_app, toList_some, toList_none, if_true, if_false, true_and, and_true, cond_true, sm0, sm1, sm1l, sm2, lc_lt, lc_gt, lc_eq, Int.toNat_natCast, Int.reduceToNat, Nat.reduceAdd, Nat.reduceEqDiff, Int.reduceLT, Int.reduceEq, Int.reduceNeg, Int.reduceAdd, Int.reduceMul, Nat.reduceMul, ms_n, ms_i, ms_l, ms_p, PM]
      exact k1
  have loop : ∀ m k : Nat, n - k = m → k ≤ n → ∀ σ', Fix σ' → Th σ0 σ' → SkM σ' C (ntM C (auW w s) k) → clmS C w p k s → At (d + 9) 213 1 [some (.inr (.inr 146)), some (.inl (p : Int)), some (.inl (n : Int)), some (.inl 1), some (.inl (k : Int))] [] σ' K := by
    intro m
    induction m with
    | zero =>
      intro k hk hk2 σ' hF' t sk hc
      obtain rfl : k = n := by omega
      refine At.blk rfl rfl rfl fun sx => ?_
      simp (decide := true) only [RR, ms_app, toList_some, toList_none, if_true, if_false, true_and, and_true, cond_true, sm0, sm1, sm1l, sm2, lc_lt, lc_gt, lc_eq, Int.toNat_natCast, Int.reduceToNat, Nat.reduceAdd, Nat.reduceEqDiff, Int.reduceLT, Int.reduceEq, Int.reduceNeg, Int.reduceAdd, Int.reduceMul, Nat.reduceMul, ms_n, ms_i, ms_l, ms_p, PM]
      rw [if_neg (by omega)]
      exact four σ' 1 _ t (Or.inl ⟨rfl, hc⟩)
    | succ m ih =>
      intro k hk hk2 σ' hF' t sk hc
      have wn : (ntM C (auW w s) k).1 = w.1 + k := ntM_night (C := C) (w := auW w s) k
      have hwk := ntM_V hwu k (by show w.1 + (k : Int) ≤ 5000; omega)
      have w1 : Unit → w32 ((k : Int) + 1) = ((k + 1 : Nat) : Int) := fun _ => by rw [w32_small (by omega) (by omega)]; omega
      refine At.blk rfl rfl rfl fun sx => ?_
      simp (decide := true) only [RR, ms_app, toList_some, toList_none, if_true, if_false, true_and, and_true, cond_true, sm0, sm1, sm1l, sm2, lc_lt, lc_gt, lc_eq, Int.toNat_natCast, Int.reduceToNat, Nat.reduceAdd, Nat.reduceEqDiff, Int.reduceLT, Int.reduceEq, Int.reduceNeg, Int.reduceAdd, Int.reduceMul, Nat.reduceMul, ms_n, ms_i, ms_l, ms_p, PM]
      rw [if_pos (by omega)]
      refine cal_of rfl (m_goes1 hF' hC hwk (by omega) t hcm sk (fun σ2 t2 s2 f2 => ?_))
      have hF2 := hF'.fr f2 rfl
      have c2 := hcm.th t2.1
      simp (decide := true) only [RR, ms_app, toList_some, toList_none, if_true, if_false, true_and, and_true, cond_true, sm0, sm1, sm1l, sm2, lc_lt, lc_gt, lc_eq, Int.toNat_natCast, Int.reduceToNat, Nat.reduceAdd, Nat.reduceEqDiff, Int.reduceLT, Int.reduceEq, Int.reduceNeg, Int.reduceAdd, Int.reduceMul, Nat.reduceMul, ms_n, ms_i, ms_l, ms_p, PM]
      refine cal_of rfl (m_isGale hF2 (by omega) (fun g => ?_) (fun g => ?_))
      · rw [Int.toNat_natCast, (s2.2 p hp).1, c2.2.1] at g
        simp (decide := true) only [RR, ms_app, toList_some, toList_none, if_true, if_false, true_and, and_true, cond_true, sm0, sm1, sm1l, sm2, lc_lt, lc_gt, lc_eq, Int.toNat_natCast, Int.reduceToNat, Nat.reduceAdd, Nat.reduceEqDiff, Int.reduceLT, Int.reduceEq, Int.reduceNeg, Int.reduceAdd, Int.reduceMul, Nat.reduceMul, ms_n, ms_i, ms_l, ms_p, PM]
        refine At.blk rfl rfl rfl fun sx => ?_
        simp (decide := true) only [RR, ms_app, toList_some, toList_none, if_true, if_false, true_and, and_true, cond_true, sm0, sm1, sm1l, sm2, lc_lt, lc_gt, lc_eq, Int.toNat_natCast, Int.reduceToNat, Nat.reduceAdd, Nat.reduceEqDiff, Int.reduceLT, Int.reduceEq, Int.reduceNeg, Int.reduceAdd, Int.reduceMul, Nat.reduceMul, ms_n, ms_i, ms_l, ms_p, PM]
        refine At.blk rfl rfl rfl fun sx => ?_
        simp (decide := true) only [RR, ms_app, toList_some, toList_none, if_true, if_false, true_and, and_true, cond_true, sm0, sm1, sm1l, sm2, lc_lt, lc_gt, lc_eq, Int.toNat_natCast, Int.reduceToNat, Nat.reduceAdd, Nat.reduceEqDiff, Int.reduceLT, Int.reduceEq, Int.reduceNeg, Int.reduceAdd, Int.reduceMul, Nat.reduceMul, ms_n, ms_i, ms_l, ms_p, PM, w1 ()]
        have fin := four σ2 0 ((k + 1 : Nat) : Int) t2 (Or.inr ⟨rfl, fun h => by
          have h := h k (by omega)
          have g : C.2.1 ≤ (ntM C (auW w s) (k + 1)).2.1 p := g
          omega⟩)
        refine At.blk rfl rfl rfl fun sx => ?_
        simp (decide := true) only [RR, ms_app, toList_some, toList_none, if_true, if_false, true_and, and_true, cond_true, sm0, sm1, sm1l, sm2, lc_lt, lc_gt, lc_eq, Int.toNat_natCast, Int.reduceToNat, Nat.reduceAdd, Nat.reduceEqDiff, Int.reduceLT, Int.reduceEq, Int.reduceNeg, Int.reduceAdd, Int.reduceMul, Nat.reduceMul, ms_n, ms_i, ms_l, ms_p, PM]
        by_cases e : ((k + 1 : Nat) : Int) < (n : Int)
        · first | (rw [if_pos e]; exact fin) | exact fin
        · first | (rw [if_neg e]; exact fin) | exact fin
      · rw [Int.toNat_natCast, (s2.2 p hp).1, c2.2.1] at g
        simp (decide := true) only [RR, ms_app, toList_some, toList_none, if_true, if_false, true_and, and_true, cond_true, sm0, sm1, sm1l, sm2, lc_lt, lc_gt, lc_eq, Int.toNat_natCast, Int.reduceToNat, Nat.reduceAdd, Nat.reduceEqDiff, Int.reduceLT, Int.reduceEq, Int.reduceNeg, Int.reduceAdd, Int.reduceMul, Nat.reduceMul, ms_n, ms_i, ms_l, ms_p, PM]
        refine At.blk rfl rfl rfl fun sx => ?_
        simp (decide := true) only [RR, ms_app, toList_some, toList_none, if_true, if_false, true_and, and_true, cond_true, sm0, sm1, sm1l, sm2, lc_lt, lc_gt, lc_eq, Int.toNat_natCast, Int.reduceToNat, Nat.reduceAdd, Nat.reduceEqDiff, Int.reduceLT, Int.reduceEq, Int.reduceNeg, Int.reduceAdd, Int.reduceMul, Nat.reduceMul, ms_n, ms_i, ms_l, ms_p, PM, w1 ()]
        refine ih (k + 1) (by omega) (by omega) σ2 hF2 t2 s2 (fun j hj => ?_)
        by_cases e : j = k
        · rw [e]; exact g
        · exact hc j (by omega)
  refine At.blk rfl rfl rfl fun sx => ?_
  simp (decide := true) only [RR, ms_app, toList_some, toList_none, if_true, if_false, true_and, and_true, cond_true, sm0, sm1, sm1l, sm2, lc_lt, lc_gt, lc_eq, Int.toNat_natCast, Int.reduceToNat, Nat.reduceAdd, Nat.reduceEqDiff, Int.reduceLT, Int.reduceEq, Int.reduceNeg, Int.reduceAdd, Int.reduceMul, Nat.reduceMul, ms_n, ms_i, ms_l, ms_p, PM]
  exact loop n 0 rfl (by omega) σ hF hT hsm (fun k hk => absurd hk (by omega))
end
