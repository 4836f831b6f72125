/-! longs: shifts, joined bits -/
theorem tbn64 {a : Nat} (ha : a < 2 ^ 63) : (Int64.ofInt (a : Int)).toBitVec.toNat = a := by
  show (BitVec.ofInt 64 (a : Int)).toNat = a
  rw [BitVec.toNat_ofInt]; omega
theorem l_or_nat {a b : Nat} (ha : a < 2 ^ 63) (hb : b < 2 ^ 63) : l_or (a : Int) (b : Int) = ((a ||| b : Nat) : Int) := by
  unfold l_or
  have e : (Int64.ofInt (a : Int) ||| Int64.ofInt (b : Int)).toBitVec = (Int64.ofInt (a : Int)).toBitVec ||| (Int64.ofInt (b : Int)).toBitVec := rfl
  have h1 : (Int64.ofInt (a : Int) ||| Int64.ofInt (b : Int)).toBitVec.toNat = a ||| b := by
    rw [e, BitVec.toNat_or, tbn64 ha, tbn64 hb]
  have h2 : a ||| b < 2 ^ 63 := Nat.or_lt_two_pow ha hb
  have h3 : (Int64.ofInt (a : Int) ||| Int64.ofInt (b : Int)).toInt = (Int64.ofInt (a : Int) ||| Int64.ofInt (b : Int)).toBitVec.toInt := rfl
  rw [h3, BitVec.toInt_eq_toNat_of_lt (by rw [h1]; omega), h1]
theorem shl_amt : ∀ p : Nat, p < 64 → (((Int32.ofInt (p : Int)).toInt64 &&& 63).toBitVec.smod 64).toNat = p := by decide +kernel
theorem l_shl_nat {a k : Nat} (hk : k < 64) (h : a * 2 ^ k < 2 ^ 63) : l_shl (a : Int) (k : Int) = ((a * 2 ^ k : Nat) : Int) := by
  unfold l_shl
  have h0 : a ≤ a * 2 ^ k := Nat.le_mul_of_pos_right a (Nat.pow_pos (by decide))
  have h1 : (Int64.ofInt (a : Int) <<< ((Int32.ofInt (k : Int)).toInt64 &&& 63)).toBitVec.toNat = a * 2 ^ k := by
    show ((Int64.ofInt (a : Int)).toBitVec <<< (((Int32.ofInt (k : Int)).toInt64 &&& 63).toBitVec.smod 64).toNat).toNat = _
    rw [shl_amt k hk, BitVec.toNat_shiftLeft, Nat.shiftLeft_eq, tbn64 (by omega), Nat.mod_eq_of_lt (by omega)]
  have h3 : (Int64.ofInt (a : Int) <<< ((Int32.ofInt (k : Int)).toInt64 &&& 63)).toInt = (Int64.ofInt (a : Int) <<< ((Int32.ofInt (k : Int)).toInt64 &&& 63)).toBitVec.toInt := rfl
  rw [h3, BitVec.toInt_eq_toNat_of_lt (by rw [h1]; omega), h1]
theorem l_shr_nat {a k : Nat} (hk : k < 64) (h : a < 2 ^ 63) : l_shr (a : Int) (k : Int) = ((a / 2 ^ k : Nat) : Int) := by
  unfold l_shr
  show ((Int64.ofInt (a : Int)).toBitVec.sshiftRight (((Int32.ofInt (k : Int)).toInt64 &&& 63).toBitVec.smod 64).toNat).toInt = _
  rw [shl_amt k hk, BitVec.toInt_sshiftRight, BitVec.toInt_eq_toNat_of_lt (by rw [tbn64 h]; omega), tbn64 h, Int.shiftRight_eq_div_pow]
  simp
theorem l_and5 {a : Nat} (h : a < 2 ^ 63) : l_and (a : Int) 31 = ((a % 32 : Nat) : Int) := by
  unfold l_and
  have e : (Int64.ofInt (a : Int) &&& Int64.ofInt 31).toBitVec = (Int64.ofInt (a : Int)).toBitVec &&& BitVec.ofInt 64 31 := rfl
  have n2 : (BitVec.ofInt 64 31).toNat = 2 ^ 5 - 1 := by decide
  have h2 : (Int64.ofInt (a : Int) &&& Int64.ofInt 31).toBitVec.toNat = a % 2 ^ 5 := by
    rw [e, BitVec.toNat_and, tbn64 h, n2, Nat.and_two_pow_sub_one_eq_mod]
  have h3 : (Int64.ofInt (a : Int) &&& Int64.ofInt 31).toInt = (Int64.ofInt (a : Int) &&& Int64.ofInt 31).toBitVec.toInt := rfl
  have h4 : a % 2 ^ 5 < 2 ^ 5 := Nat.mod_lt _ (by decide)
  rw [h3, BitVec.toInt_eq_toNat_of_lt (by rw [h2]; omega), h2]
/-! airs packed, five bits each -/
def pkN (f : Nat → Int) : Nat → Nat
  | 0 => 0
  | k + 1 => pkN f k + (f k).toNat * 2 ^ (5 * k)
theorem pkN_s {f : Nat → Int} {k : Nat} : pkN f (k + 1) = pkN f k + (f k).toNat * 2 ^ (5 * k) := rfl
theorem pw5 (k : Nat) : 2 ^ (5 * (k + 1)) = 32 * 2 ^ (5 * k) := by
  rw [show 5 * (k + 1) = 5 * k + 5 by omega, Nat.pow_add]; omega
theorem pkN_lt {f : Nat → Int} : ∀ k, (∀ j, j < k → 0 ≤ f j ∧ f j ≤ 20) → pkN f k < 2 ^ (5 * k)
  | 0, _ => Nat.zero_lt_one
  | k + 1, h => by
    have ih := pkN_lt (f := f) k (fun j hj => h j (by omega))
    have hk := h k (by omega)
    have h2 : (f k).toNat * 2 ^ (5 * k) ≤ 20 * 2 ^ (5 * k) := Nat.mul_le_mul_right _ (by omega)
    rw [pkN_s, pw5]; omega
theorem pkN_get {f : Nat → Int} {p : Nat} : ∀ k, p < k → (∀ j, j < k → 0 ≤ f j ∧ f j ≤ 20) → pkN f k / 2 ^ (5 * p) % 32 = (f p).toNat
  | 0, hp, _ => absurd hp (by omega)
  | k + 1, hp, h => by
    have hk := h k (by omega)
    by_cases e : p = k
    · subst e
      have := pkN_lt (f := f) p (fun j hj => h j (by omega))
      rw [pkN_s, Nat.add_mul_div_right _ _ (Nat.pow_pos (by decide)), Nat.div_eq_of_lt this]
      omega
    · have ih := pkN_get (f := f) (p := p) k (by omega) (fun j hj => h j (by omega))
      obtain ⟨j, rfl⟩ : ∃ j, k = p + 1 + j := ⟨k - p - 1, by omega⟩
      have e1 : 2 ^ (5 * (p + 1 + j)) = 2 ^ (5 * p) * (32 * 2 ^ (5 * j)) := by
        rw [show 5 * (p + 1 + j) = 5 * p + (5 + 5 * j) by omega, Nat.pow_add, Nat.pow_add 2 5]
      rw [pkN_s, e1, show (f (p + 1 + j)).toNat * (2 ^ (5 * p) * (32 * 2 ^ (5 * j))) = 2 ^ (5 * p) * (32 * ((f (p + 1 + j)).toNat * 2 ^ (5 * j))) by
        rw [Nat.mul_left_comm, Nat.mul_left_comm 32]]
      rw [Nat.add_mul_div_left _ _ (Nat.pow_pos (by decide)), Nat.add_mul_mod_self_left]
      exact ih
/-! rest -/
def dfW (w : Sk) (s : Int) : Sk := (w.1, w.2.1, w.2.2.1, bit s, w.2.2.2.2)
theorem dfW_V {C : Ct} {w : Sk} {s : Int} (h : SkV C w) : SkV C (dfW w s) := by
  refine ⟨h.1, fun j hj => ?_⟩
  obtain ⟨a1, a2, a3, a4⟩ := h.2 j hj
  exact ⟨a1, a2, bit01, a4⟩
def arS (C : Ct) (w : Sk) (n : Nat) (s : Int) (p : Nat) : Int := (ntM C (dfW w s) n).2.1 p
theorem arS_le {C : Ct} {w : Sk} {n : Nat} {s : Int} (h : SkV C w) (h9 : w.1 + n ≤ 999) (p : Nat) (hp : p < C.1) : 0 ≤ arS C w n s p ∧ arS C w n s p ≤ 20 :=
  ((ntM_V (dfW_V (s := s) h) n (by show w.1 + (n : Int) ≤ 5000; omega)).2 p hp).1
def rsQ (C : Ct) (w : Sk) (n : Nat) (s : Nat) : Prop := ∀ p, p < C.1 → arS C w n (s : Int) p ≤ arS C w n (i_xor (s : Int) (i_shl 1 (p : Int))) p
def rstR (C : Ct) (w : Sk) (n v : Int) : Prop := ((1 ≤ n ∧ n ≤ 30 ∧ w.1 + n ≤ 999) → Bst (2 ^ C.1) C.1 (rsQ C w n.toNat) v) ∧ (¬(1 ≤ n ∧ n ≤ 30 ∧ w.1 + n ≤ 999) → v = -1)
theorem rstR_uniq {C : Ct} {w : Sk} {n : Int} (u v : Int) (h : rstR C w n u) (h2 : rstR C w n v) : u = v := by
  by_cases e : 1 ≤ n ∧ n ≤ 30 ∧ w.1 + n ≤ 999
  · exact (h.1 e).uniq (h2.1 e)
  · rw [h.2 e, h2.2 e]
/-- what the class has learnt -/
def AbX (σ : mM) (C : Ct) (w : Sk) (n : Nat) : Prop := ∀ s : Nat, s < 2 ^ C.1 → σ 37 s = -1 ∨ σ 37 s = ((pkN (arS C w n (s : Int)) C.1 : Nat) : Int)
theorem AbX.cg {σ σ' : mM} {C : Ct} {w : Sk} {n : Nat} (h : AbX σ C w n) (e : σ' 37 = σ 37) : AbX σ' C w n := by
  unfold AbX at *; rw [e]; exact h
section
variable {d : Nat} {σ σ0 : mM} {K : Option mV → mM → Prop} {C : Ct} {w : Sk} {l : Kp}
theorem x_fill37 {v : Int} (hK : ∀ σ', Fr [37] [] σ σ' → (∀ k, k < 128 → σ' 37 k = v) → K none σ') : Mt (d + 1) 279 [.inr (.inr 37), .inr (.inl v)] σ K := by
  refine Mt.go (lv := [some (.inr (.inr 37)), some (.inr (.inl v)), none, none, none]) rfl rfl rfl ?_
  refine At.blk rfl rfl rfl fun sx => ?_
  simp (decide := true) only [RR, ms_app, toList_some, toList_none, if_true, if_false, true_and, and_true, cond_true, sm0, sm1, sm1l, sm2, lc_lt, lc_gt, lc_eq, Int.toNat_natCast, Int.reduceToNat, Nat.reduceAdd, Nat.reduceEqDiff, Int.reduceLT, Int.reduceEq, Int.reduceNeg, Int.reduceAdd, Int.reduceMul, Nat.reduceMul, ms_n, ms_i, ms_l, ms_p, PX]
  have loop : ∀ m k : Nat, 128 - k = m → k ≤ 128 → ∀ σ', Fr [37] [] σ σ' → (∀ j, j < k → σ' 37 j = v) → At d 279 1 [some (.inr (.inr 37)), some (.inr (.inl v)), none, some (.inl (k : Int)), some (.inl 128)] [] σ' K := by
    intro m
    induction m with
    | zero =>
      intro k hk hk2 σ' fr h
      obtain rfl : k = 128 := by omega
      refine At.blk rfl rfl rfl fun sx => ?_
      simp (decide := true) only [RR, ms_app, toList_some, toList_none, if_true, if_false, true_and, and_true, cond_true, sm0, sm1, sm1l, sm2, lc_lt, lc_gt, lc_eq, Int.toNat_natCast, Int.reduceToNat, Nat.reduceAdd, Nat.reduceEqDiff, Int.reduceLT, Int.reduceEq, Int.reduceNeg, Int.reduceAdd, Int.reduceMul, Nat.reduceMul, ms_n, ms_i, ms_l, ms_p, PX]
      refine At.blk rfl rfl rfl fun sx => ?_
      simp (decide := true) only [RR, ms_app, toList_some, toList_none, if_true, if_false, true_and, and_true, cond_true, sm0, sm1, sm1l, sm2, lc_lt, lc_gt, lc_eq, Int.toNat_natCast, Int.reduceToNat, Nat.reduceAdd, Nat.reduceEqDiff, Int.reduceLT, Int.reduceEq, Int.reduceNeg, Int.reduceAdd, Int.reduceMul, Nat.reduceMul, ms_n, ms_i, ms_l, ms_p, PX]
      exact hK σ' fr h
    | succ m ih =>
      intro k hk hk2 σ' fr h
      have w1 : Unit → w32 ((k : Int) + 1) = ((k + 1 : Nat) : Int) := fun _ => by rw [w32_small (by omega) (by omega)]; omega
      refine At.blk rfl rfl rfl fun sx => ?_
      simp (decide := true) only [RR, ms_app, toList_some, toList_none, if_true, if_false, true_and, and_true, cond_true, sm0, sm1, sm1l, sm2, lc_lt, lc_gt, lc_eq, Int.toNat_natCast, Int.reduceToNat, Nat.reduceAdd, Nat.reduceEqDiff, Int.reduceLT, Int.reduceEq, Int.reduceNeg, Int.reduceAdd, Int.reduceMul, Nat.reduceMul, ms_n, ms_i, ms_l, ms_p, PX, w1 ()]
      rw [if_pos (by omega)]
      refine ⟨⟨by omega, by omega⟩, ?_⟩
      refine ih (k + 1) (by omega) (by omega) _ (fr.setr rfl) (fun j hj => ?_)
      rw [ms_app, if_pos rfl]
      by_cases e : j = k
      · rw [if_pos e]
      · rw [if_neg e]; exact h j (by omega)
  exact loop 128 0 rfl (by omega) σ Fr.same (fun j h => absurd h (by omega))
theorem SkX.deaf {s : Nat} (h : SkX σ 34 C w) (hs : s < 2 ^ C.1) : SkX (mj_set σ 34 4 (s : Int)) 34 C (dfW w (s : Int)) := by
  obtain ⟨h1, h2, h3, h4⟩ := h
  refine ⟨h1, h2, ?_, fun j hj => ?_⟩
  · rw [ms_app, if_pos rfl, if_pos rfl, ← pw_cast]; omega
  · obtain ⟨a1, a2, a3, a4⟩ := h4 j hj
    exact ⟨a1, a2, by rw [ms_app, if_pos rfl, if_pos rfl]; rfl, a4⟩
theorem x_learnAir {n s : Nat} (hF : Fix σ) (hC : CtV C) (hs : s < 2 ^ C.1) (hcx : CtX σ C) (hw : SkV C w) (hsx : SkX σ 28 C w) (hn : n ≤ 30) (h9 : w.1 + n ≤ 999) (hA : AbX σ C w n) (hK : ∀ σ', Fr xrL xrT σ σ' → AbX σ' C w n → σ' 37 s = ((pkN (arS C w n (s : Int)) C.1 : Nat) : Int) → (∀ t, σ 37 t ≠ -1 → σ' 37 t = σ 37 t) → K none σ') : Mt (d + 5) 27 [.inr (.inr 33), .inl (s : Int), .inl (n : Int)] σ K := by
  refine Mt.go (lv := [some (.inr (.inr 33)), some (.inl (s : Int)), some (.inl (n : Int)), none, none, none]) rfl rfl rfl ?_
  have n7 := hC.1
  have h7 := pwN7 C.1 n7
  refine At.blk rfl rfl rfl fun sx => ?_
  simp (decide := true) only [RR, ms_app, toList_some, toList_none, if_true, if_false, true_and, and_true, cond_true, sm0, sm1, sm1l, sm2, lc_lt, lc_gt, lc_eq, Int.toNat_natCast, Int.reduceToNat, Nat.reduceAdd, Nat.reduceEqDiff, Int.reduceLT, Int.reduceEq, Int.reduceNeg, Int.reduceAdd, Int.reduceMul, Nat.reduceMul, ms_n, ms_i, ms_l, ms_p, PX, fxX hF]
  refine ⟨⟨by omega, by omega⟩, ?_⟩
  by_cases e1 : σ 37 s = -1
  · rw [if_pos e1]
    refine At.blk rfl rfl rfl fun sx => ?_
    simp (decide := true) only [RR, ms_app, toList_some, toList_none, if_true, if_false, true_and, and_true, cond_true, sm0, sm1, sm1l, sm2, lc_lt, lc_gt, lc_eq, Int.toNat_natCast, Int.reduceToNat, Nat.reduceAdd, Nat.reduceEqDiff, Int.reduceLT, Int.reduceEq, Int.reduceNeg, Int.reduceAdd, Int.reduceMul, Nat.reduceMul, ms_n, ms_i, ms_l, ms_p, PX, fxX hF]
    refine cal_of rfl (x_skyCopy hF rfl rfl (by omega) ?_)
    have f0 : Fr xrL xrT σ (skyC σ 34 28) := Fr.copy.mono rfl
    have g0 : Fr [22, 23, 24, 25, 26, 27, 35, 36] [(21, 4), (34, 2), (34, 3), (34, 4)] σ (skyC σ 34 28) := Fr.copy.mono rfl
    have hF0 := hF.fr f0 rfl
    have s0 := (hsx.copy n7).deaf hs
    generalize skyC σ 34 28 = σ1 at *
    simp (decide := true) only [RR, ms_app, toList_some, toList_none, if_true, if_false, true_and, and_true, cond_true, sm0, sm1, sm1l, sm2, lc_lt, lc_gt, lc_eq, Int.toNat_natCast, Int.reduceToNat, Nat.reduceAdd, Nat.reduceEqDiff, Int.reduceLT, Int.reduceEq, Int.reduceNeg, Int.reduceAdd, Int.reduceMul, Nat.reduceMul, ms_n, ms_i, ms_l, ms_p, PX, fxX hF0]
    have hwu : SkV C (dfW w (s : Int)) := dfW_V hw
    have loop : ∀ m k : Nat, n - k = m → k ≤ n → ∀ σ', Fr [22, 23, 24, 25, 26, 27, 35, 36] [(21, 4), (34, 2), (34, 3), (34, 4)] σ σ' → SkX σ' 34 C (ntM C (dfW w (s : Int)) k) → At (d + 4) 27 2 [some (.inr (.inr 33)), some (.inl (s : Int)), some (.inl (n : Int)), some (.inl (k : Int)), none, none] [] σ' K := by
      intro m
      induction m with
      | zero =>
        intro k hk hk2 σ' fr sk
        obtain rfl : k = n := by omega
        have F : Fr xrL xrT σ σ' := fr.mono rfl
        have hF' := hF.fr F rfl
        have ar : ∀ p, p < C.1 → σ' 35 p = arS C w k (s : Int) p := fun p hp => (sk.2.2.2 p hp).1
        have al := arS_le (s := (s : Int)) hw h9
        refine At.blk rfl rfl rfl fun sx => ?_
        simp (decide := true) only [RR, ms_app, toList_some, toList_none, if_true, if_false, true_and, and_true, cond_true, sm0, sm1, sm1l, sm2, lc_lt, lc_gt, lc_eq, Int.toNat_natCast, Int.reduceToNat, Nat.reduceAdd, Nat.reduceEqDiff, Int.reduceLT, Int.reduceEq, Int.reduceNeg, Int.reduceAdd, Int.reduceMul, Nat.reduceMul, ms_n, ms_i, ms_l, ms_p, PX]
        rw [if_neg (by omega)]
        refine At.blk rfl rfl rfl fun sx => ?_
        simp (decide := true) only [RR, ms_app, toList_some, toList_none, if_true, if_false, true_and, and_true, cond_true, sm0, sm1, sm1l, sm2, lc_lt, lc_gt, lc_eq, Int.toNat_natCast, Int.reduceToNat, Nat.reduceAdd, Nat.reduceEqDiff, Int.reduceLT, Int.reduceEq, Int.reduceNeg, Int.reduceAdd, Int.reduceMul, Nat.reduceMul, ms_n, ms_i, ms_l, ms_p, PX]
        have loop2 : ∀ m j : Nat, C.1 - j = m → j ≤ C.1 → At (d + 4) 27 4 [some (.inr (.inr 33)), some (.inl (s : Int)), some (.inl (k : Int)), some (.inr (.inl ((pkN (arS C w k (s : Int)) j : Nat) : Int))), none, some (.inl (j : Int))] [] σ' K := by
          intro m
          induction m with
          | zero =>
            intro j hj hj2
            obtain rfl : j = C.1 := by omega
            refine At.blk rfl rfl rfl fun sx => ?_
            simp (decide := true) only [RR, ms_app, toList_some, toList_none, if_true, if_false, true_and, and_true, cond_true, sm0, sm1, sm1l, sm2, lc_lt, lc_gt, lc_eq, Int.toNat_natCast, Int.reduceToNat, Nat.reduceAdd, Nat.reduceEqDiff, Int.reduceLT, Int.reduceEq, Int.reduceNeg, Int.reduceAdd, Int.reduceMul, Nat.reduceMul, ms_n, ms_i, ms_l, ms_p, PX, fxX hF', (hcx.xr F).1]
            rw [if_neg (by omega)]
            refine At.blk rfl rfl rfl fun sx => ?_
            simp (decide := true) only [RR, ms_app, toList_some, toList_none, if_true, if_false, true_and, and_true, cond_true, sm0, sm1, sm1l, sm2, lc_lt, lc_gt, lc_eq, Int.toNat_natCast, Int.reduceToNat, Nat.reduceAdd, Nat.reduceEqDiff, Int.reduceLT, Int.reduceEq, Int.reduceNeg, Int.reduceAdd, Int.reduceMul, Nat.reduceMul, ms_n, ms_i, ms_l, ms_p, PX, fxX hF']
            refine ⟨⟨by omega, by omega⟩, ?_⟩
            refine hK _ (F.setr rfl) (fun t ht => ?_) (by rw [ms_app, if_pos rfl, if_pos rfl]) (fun t ht => ?_)
            · rw [ms_app, if_pos rfl]
              by_cases e : t = s
              · rw [if_pos e, e]; exact Or.inr rfl
              · rw [if_neg e, fr 37 t rfl]; exact hA t ht
            · rw [ms_app, if_pos rfl, if_neg (fun e => ht (by rw [e]; exact e1))]
              exact fr 37 t rfl
          | succ m ih2 =>
            intro j hj hj2
            have hj3 : j < C.1 := by omega
            have aj := al j hj3
            have pl := pkN_lt (f := arS C w k (s : Int)) j (fun i hi => al i (by omega))
            have p35 : 2 ^ (5 * (j + 1)) ≤ 2 ^ 35 := Nat.pow_le_pow_right (by decide) (by omega)
            have pe := pw5 j
            have w1 : Unit → w32 ((j : Int) + 1) = ((j + 1 : Nat) : Int) := fun _ => by rw [w32_small (by omega) (by omega)]; omega
            have w2 : Unit → w32 (5 * (j : Int)) = ((5 * j : Nat) : Int) := fun _ => by rw [w32_small (by omega) (by omega)]; omega
            have am : (arS C w k (s : Int) j).toNat * 2 ^ (5 * j) ≤ 20 * 2 ^ (5 * j) := Nat.mul_le_mul_right _ (by omega)
            have e2 : l_or ((pkN (arS C w k (s : Int)) j : Nat) : Int) (l_shl (arS C w k (s : Int) j) ((5 * j : Nat) : Int)) = ((pkN (arS C w k (s : Int)) (j + 1) : Nat) : Int) := by
              have e3 : arS C w k (s : Int) j = (((arS C w k (s : Int) j).toNat : Nat) : Int) := by omega
              rw [e3, l_shl_nat (by omega) (by omega), l_or_nat (by omega) (by omega), Nat.or_comm, Nat.mul_comm, ← Nat.two_pow_add_eq_or_of_lt pl, pkN_s]
              rw [Nat.mul_comm, Nat.add_comm]
            refine At.blk rfl rfl rfl fun sx => ?_
            simp (decide := true) only [RR, ms_app, toList_some, toList_none, if_true, if_false, true_and, and_true, cond_true, sm0, sm1, sm1l, sm2, lc_lt, lc_gt, lc_eq, Int.toNat_natCast, Int.reduceToNat, Nat.reduceAdd, Nat.reduceEqDiff, Int.reduceLT, Int.reduceEq, Int.reduceNeg, Int.reduceAdd, Int.reduceMul, Nat.reduceMul, ms_n, ms_i, ms_l, ms_p, PX, fxX hF', (hcx.xr F).1, ar j hj3, w2 (), e2]
            rw [if_pos (by omega)]
            refine ⟨⟨by omega, by omega⟩, ?_⟩
            rw [w1 ()]
            exact ih2 (j + 1) (by omega) (by omega)
        exact loop2 C.1 0 rfl (by omega)
      | succ m ih =>
        intro k hk hk2 σ' fr sk
        have F : Fr xrL xrT σ σ' := fr.mono rfl
        have hF' := hF.fr F rfl
        have c8 := hcx.xr F
        have wn : (ntM C (dfW w (s : Int)) k).1 = w.1 + k := ntM_night (C := C) (w := dfW w (s : Int)) k
        have hwk := ntM_V hwu k (by show w.1 + (k : Int) ≤ 5000; omega)
        have w1 : Unit → w32 ((k : Int) + 1) = ((k + 1 : Nat) : Int) := fun _ => by rw [w32_small (by omega) (by omega)]; omega
        refine At.blk rfl rfl rfl fun sx => ?_
        simp (decide := true) only [RR, ms_app, toList_some, toList_none, if_true, if_false, true_and, and_true, cond_true, sm0, sm1, sm1l, sm2, lc_lt, lc_gt, lc_eq, Int.toNat_natCast, Int.reduceToNat, Nat.reduceAdd, Nat.reduceEqDiff, Int.reduceLT, Int.reduceEq, Int.reduceNeg, Int.reduceAdd, Int.reduceMul, Nat.reduceMul, ms_n, ms_i, ms_l, ms_p, PX, fxX hF']
        rw [if_pos (by omega)]
        refine cal_of rfl (x_foresee34 hF' hC hwk c8 sk (fun σ2 f2 hE h2 => ?_))
        have hF2 := hF'.fr f2 rfl
        simp (decide := true) only [RR, ms_app, toList_some, toList_none, if_true, if_false, true_and, and_true, cond_true, sm0, sm1, sm1l, sm2, lc_lt, lc_gt, lc_eq, Int.toNat_natCast, Int.reduceToNat, Nat.reduceAdd, Nat.reduceEqDiff, Int.reduceLT, Int.reduceEq, Int.reduceNeg, Int.reduceAdd, Int.reduceMul, Nat.reduceMul, ms_n, ms_i, ms_l, ms_p, PX, fxX hF2]
        refine cal_of rfl (x_pass34 hF2 hC hwk (c8.xw f2) (sk.xw34 f2) (fun p hp => (h2 p hp).2.2) (fun σ3 f3 s3 => ?_))
        rw [nxC_eq (by omega)] at s3
        simp (decide := true) only [RR, ms_app, toList_some, toList_none, if_true, if_false, true_and, and_true, cond_true, sm0, sm1, sm1l, sm2, lc_lt, lc_gt, lc_eq, Int.toNat_natCast, Int.reduceToNat, Nat.reduceAdd, Nat.reduceEqDiff, Int.reduceLT, Int.reduceEq, Int.reduceNeg, Int.reduceAdd, Int.reduceMul, Nat.reduceMul, ms_n, ms_i, ms_l, ms_p, PX, w1 ()]
        exact ih (k + 1) (by omega) (by omega) σ3 ((fr.trans (f2.mono rfl)).trans (f3.mono rfl)) s3
    exact loop n 0 rfl (by omega) _ (g0.set rfl) s0
  · rw [if_neg e1]
    have e2 := (hA s hs).resolve_left e1
    exact hK σ Fr.same hA e2 (fun _ _ => rfl)
theorem x_isAtRest {n s : Nat} (hF : Fix σ) (hC : CtV C) (hs : s < 2 ^ C.1) (hcx : CtX σ C) (hw : SkV C w) (hsx : SkX σ 28 C w) (hn : n ≤ 30) (h9 : w.1 + n ≤ 999) (hA : AbX σ C w n) (hK : ∀ σ' v, Fr xrL xrT σ σ' → AbX σ' C w n → (v = 1 ∧ rsQ C w n s ∨ v = 0 ∧ ¬rsQ C w n s) → K (some (.inl v)) σ') : Mt (d + 6) 26 [.inr (.inr 33), .inl (s : Int), .inl (n : Int)] σ K := by
  refine Mt.go (lv := [some (.inr (.inr 33)), some (.inl (s : Int)), some (.inl (n : Int)), none, none, none, none, none, none]) rfl rfl rfl ?_
  have n7 := hC.1
  have h7 := pwN7 C.1 n7
  refine At.blk rfl rfl rfl fun sx => ?_
  simp (decide := true) only [RR, ms_app, toList_some, toList_none, if_true, if_false, true_and, and_true, cond_true, sm0, sm1, sm1l, sm2, lc_lt, lc_gt, lc_eq, Int.toNat_natCast, Int.reduceToNat, Nat.reduceAdd, Nat.reduceEqDiff, Int.reduceLT, Int.reduceEq, Int.reduceNeg, Int.reduceAdd, Int.reduceMul, Nat.reduceMul, ms_n, ms_i, ms_l, ms_p, PX, fxX hF]
  refine cal_of rfl (x_learnAir hF hC hs hcx hw hsx hn h9 hA (fun σ1 f1 A1 e1 _ => ?_))
  simp (decide := true) only [RR, ms_app, toList_some, toList_none, if_true, if_false, true_and, and_true, cond_true, sm0, sm1, sm1l, sm2, lc_lt, lc_gt, lc_eq, Int.toNat_natCast, Int.reduceToNat, Nat.reduceAdd, Nat.reduceEqDiff, Int.reduceLT, Int.reduceEq, Int.reduceNeg, Int.reduceAdd, Int.reduceMul, Nat.reduceMul, ms_n, ms_i, ms_l, ms_p, PX]
  have loop : ∀ m p : Nat, C.1 - p = m → p ≤ C.1 → ∀ (σ' : mM) (o4 o5 o6 o7 o8 : Option mV), Fr xrL xrT σ σ' → AbX σ' C w n → σ' 37 s = ((pkN (arS C w n (s : Int)) C.1 : Nat) : Int) → (∀ j, j < p → arS C w n (s : Int) j ≤ arS C w n (i_xor (s : Int) (i_shl 1 (j : Int))) j) → At (d + 5) 26 1 [some (.inr (.inr 33)), some (.inl (s : Int)), some (.inl (n : Int)), some (.inl (p : Int)), o4, o5, o6, o7, o8] [] σ' K := by
    intro m
    induction m with
    | zero =>
      intro p hp hp2 σ' o4 o5 o6 o7 o8 fr A es hq
      obtain rfl : p = C.1 := by omega
      have hF' := hF.fr fr rfl
      refine At.blk rfl rfl rfl fun sx => ?_
      simp (decide := true) only [RR, ms_app, toList_some, toList_none, if_true, if_false, true_and, and_true, cond_true, sm0, sm1, sm1l, sm2, lc_lt, lc_gt, lc_eq, Int.toNat_natCast, Int.reduceToNat, Nat.reduceAdd, Nat.reduceEqDiff, Int.reduceLT, Int.reduceEq, Int.reduceNeg, Int.reduceAdd, Int.reduceMul, Nat.reduceMul, ms_n, ms_i, ms_l, ms_p, PX, fxX hF', (hcx.xr fr).1]
      rw [if_neg (by omega)]
      refine At.blk rfl rfl rfl fun sx => ?_
      simp (decide := true) only [RR, ms_app, toList_some, toList_none, if_true, if_false, true_and, and_true, cond_true, sm0, sm1, sm1l, sm2, lc_lt, lc_gt, lc_eq, Int.toNat_natCast, Int.reduceToNat, Nat.reduceAdd, Nat.reduceEqDiff, Int.reduceLT, Int.reduceEq, Int.reduceNeg, Int.reduceAdd, Int.reduceMul, Nat.reduceMul, ms_n, ms_i, ms_l, ms_p, PX]
      exact hK σ' 1 fr A (Or.inl ⟨rfl, hq⟩)
    | succ m ih =>
      intro p hp hp2 σ' o4 o5 o6 o7 o8 fr A es hq
      have hp3 : p < C.1 := by omega
      have hF' := hF.fr fr rfl
      have w1 : Unit → w32 ((p : Int) + 1) = ((p + 1 : Nat) : Int) := fun _ => by rw [w32_small (by omega) (by omega)]; omega
      have w2 : Unit → w32 (5 * (p : Int)) = ((5 * p : Nat) : Int) := fun _ => by rw [w32_small (by omega) (by omega)]; omega
      obtain ⟨x1, -⟩ := xor_bit (v := (s : Int)) n7 hp3 (by omega) (by rw [← pw_cast]; omega)
      generalize hX : i_xor (s : Int) (i_shl 1 (p : Int)) = X at *
      obtain ⟨X, rfl⟩ := Int.eq_ofNat_of_zero_le x1.1
      have x2 : X < 2 ^ C.1 := by
        have := x1.2
        rw [← pw_cast] at this
        omega
      refine At.blk rfl rfl rfl fun sx => ?_
      simp (decide := true) only [RR, ms_app, toList_some, toList_none, if_true, if_false, true_and, and_true, cond_true, sm0, sm1, sm1l, sm2, lc_lt, lc_gt, lc_eq, Int.toNat_natCast, Int.reduceToNat, Nat.reduceAdd, Nat.reduceEqDiff, Int.reduceLT, Int.reduceEq, Int.reduceNeg, Int.reduceAdd, Int.reduceMul, Nat.reduceMul, ms_n, ms_i, ms_l, ms_p, PX, fxX hF', (hcx.xr fr).1, hX]
      rw [if_pos (by omega)]
      refine cal_of rfl (x_learnAir hF' hC x2 (hcx.xr fr) hw (hsx.xr fr) hn h9 A (fun σ2 f2 A2 e2 k2 => ?_))
      have F2 := fr.trans f2
      have hF2 := hF.fr F2 rfl
      have es2 : σ2 37 s = ((pkN (arS C w n (s : Int)) C.1 : Nat) : Int) := by
        rw [k2 s (by rw [es]; omega)]; exact es
      have al := fun t : Int => arS_le (s := t) hw h9
      have pl := fun t : Int => pkN_lt (f := arS C w n t) C.1 (al t)
      have p35 : 2 ^ (5 * C.1) ≤ 2 ^ 35 := Nat.pow_le_pow_right (by decide) (by omega)
      have dg : ∀ t : Int, l_and (l_shr ((pkN (arS C w n t) C.1 : Nat) : Int) ((5 * p : Nat) : Int)) 31 = arS C w n t p := by
        intro t
        have h1 := pl t
        have h2 := al t p hp3
        have h3 : pkN (arS C w n t) C.1 / 2 ^ (5 * p) ≤ pkN (arS C w n t) C.1 := Nat.div_le_self _ _
        rw [l_shr_nat (by omega) (by omega), l_and5 (by omega), pkN_get C.1 hp3 (al t)]
        omega
      simp (decide := true) only [RR, ms_app, toList_some, toList_none, if_true, if_false, true_and, and_true, cond_true, sm0, sm1, sm1l, sm2, lc_lt, lc_gt, lc_eq, Int.toNat_natCast, Int.reduceToNat, Nat.reduceAdd, Nat.reduceEqDiff, Int.reduceLT, Int.reduceEq, Int.reduceNeg, Int.reduceAdd, Int.reduceMul, Nat.reduceMul, ms_n, ms_i, ms_l, ms_p, PX, fxX hF2, es2, e2, w2 (), dg]
      refine ⟨⟨by omega, by omega⟩, ⟨by omega, by omega⟩, ?_⟩
      by_cases g : arS C w n (X : Int) p < arS C w n (s : Int) p
      · rw [if_pos g]
        first | exact hK σ2 0 F2 A2 (Or.inr ⟨rfl, fun h => by have := h p hp3; rw [hX] at this; omega⟩) | exact ⟨Or.inl rfl, hK σ2 0 F2 A2 (Or.inr ⟨rfl, fun h => by have := h p hp3; rw [hX] at this; omega⟩)⟩
      · rw [if_neg g]
        refine At.blk rfl rfl rfl fun sx => ?_
        simp (decide := true) only [RR, ms_app, toList_some, toList_none, if_true, if_false, true_and, and_true, cond_true, sm0, sm1, sm1l, sm2, lc_lt, lc_gt, lc_eq, Int.toNat_natCast, Int.reduceToNat, Nat.reduceAdd, Nat.reduceEqDiff, Int.reduceLT, Int.reduceEq, Int.reduceNeg, Int.reduceAdd, Int.reduceMul, Nat.reduceMul, ms_n, ms_i, ms_l, ms_p, PX, w1 ()]
        refine ih (p + 1) (by omega) (by omega) σ2 _ _ _ _ _ F2 A2 es2 (fun j hj => ?_)
        by_cases e : j = p
        · rw [e, hX]; omega
        · exact hq j (by omega)
  exact loop C.1 0 rfl (by omega) σ1 none none none none none f1 A1 e1 (fun j hj => absurd hj (by omega))
theorem x_deafAtRest {n : Nat} (hF : Fix σ) (hC : CtV C) (hcx : CtX σ C) (hw : SkV C w) (hsx : SkX σ 28 C w) (hn : n ≤ 30) (h9 : w.1 + n ≤ 999) (hK : ∀ σ' v, Fr xrL xrT σ σ' → Bst (2 ^ C.1) C.1 (rsQ C w n) v → K (some (.inl v)) σ') : Mt (d + 7) 25 [.inr (.inr 33), .inl (n : Int)] σ K := by
  refine Mt.go (lv := [some (.inr (.inr 33)), some (.inl (n : Int)), none, none]) rfl rfl rfl ?_
  have n7 := hC.1
  have h7 := pwN7 C.1 n7
  obtain ⟨r1, -⟩ := one_shl C.1 (by omega)
  refine At.blk rfl rfl rfl fun sx => ?_
  simp (decide := true) only [RR, ms_app, toList_some, toList_none, if_true, if_false, true_and, and_true, cond_true, sm0, sm1, sm1l, sm2, lc_lt, lc_gt, lc_eq, Int.toNat_natCast, Int.reduceToNat, Nat.reduceAdd, Nat.reduceEqDiff, Int.reduceLT, Int.reduceEq, Int.reduceNeg, Int.reduceAdd, Int.reduceMul, Nat.reduceMul, ms_n, ms_i, ms_l, ms_p, PX, fxX hF]
  refine cal_of rfl (x_fill37 (fun σ0 f0 h0 => ?_))
  simp (decide := true) only [RR, ms_app, toList_some, toList_none, if_true, if_false, true_and, and_true, cond_true, sm0, sm1, sm1l, sm2, lc_lt, lc_gt, lc_eq, Int.toNat_natCast, Int.reduceToNat, Nat.reduceAdd, Nat.reduceEqDiff, Int.reduceLT, Int.reduceEq, Int.reduceNeg, Int.reduceAdd, Int.reduceMul, Nat.reduceMul, ms_n, ms_i, ms_l, ms_p, PX]
  have loop : ∀ m z : Nat, C.1 + 1 - z = m → z ≤ C.1 + 1 → ∀ (σ' : mM) (o3 : Option mV), Fr xrL xrT σ σ' → AbX σ' C w n → BsL (2 ^ C.1) (rsQ C w n) (z : Int) 0 → At (d + 6) 25 1 [some (.inr (.inr 33)), some (.inl (n : Int)), some (.inl (z : Int)), o3] [] σ' K := by
    intro m
    induction m with
    | zero =>
      intro z hz hz2 σ' o3 fr A hb
      obtain rfl : z = C.1 + 1 := by omega
      have hF' := hF.fr fr rfl
      refine At.blk rfl rfl rfl fun sx => ?_
      simp (decide := true) only [RR, ms_app, toList_some, toList_none, if_true, if_false, true_and, and_true, cond_true, sm0, sm1, sm1l, sm2, lc_lt, lc_gt, lc_eq, Int.toNat_natCast, Int.reduceToNat, Nat.reduceAdd, Nat.reduceEqDiff, Int.reduceLT, Int.reduceEq, Int.reduceNeg, Int.reduceAdd, Int.reduceMul, Nat.reduceMul, ms_n, ms_i, ms_l, ms_p, PX, fxX hF', (hcx.xr fr).1]
      rw [if_pos (by omega)]
      refine At.blk rfl rfl rfl fun sx => ?_
      simp (decide := true) only [RR, ms_app, toList_some, toList_none, if_true, if_false, true_and, and_true, cond_true, sm0, sm1, sm1l, sm2, lc_lt, lc_gt, lc_eq, Int.toNat_natCast, Int.reduceToNat, Nat.reduceAdd, Nat.reduceEqDiff, Int.reduceLT, Int.reduceEq, Int.reduceNeg, Int.reduceAdd, Int.reduceMul, Nat.reduceMul, ms_n, ms_i, ms_l, ms_p, PX]
      exact hK σ' _ fr (hb.none (by omega))
    | succ m ih =>
      intro z hz hz2 σ' o3 fr A hb
      have hF' := hF.fr fr rfl
      have w2 : Unit → w32 ((z : Int) + 1) = ((z + 1 : Nat) : Int) := fun _ => by rw [w32_small (by omega) (by omega)]; omega
      refine At.blk rfl rfl rfl fun sx => ?_
      simp (decide := true) only [RR, ms_app, toList_some, toList_none, if_true, if_false, true_and, and_true, cond_true, sm0, sm1, sm1l, sm2, lc_lt, lc_gt, lc_eq, Int.toNat_natCast, Int.reduceToNat, Nat.reduceAdd, Nat.reduceEqDiff, Int.reduceLT, Int.reduceEq, Int.reduceNeg, Int.reduceAdd, Int.reduceMul, Nat.reduceMul, ms_n, ms_i, ms_l, ms_p, PX, fxX hF', (hcx.xr fr).1]
      rw [if_neg (by omega)]
      have loop2 : ∀ m s : Nat, 2 ^ C.1 - s = m → s ≤ 2 ^ C.1 → ∀ σ', Fr xrL xrT σ σ' → AbX σ' C w n → BsL (2 ^ C.1) (rsQ C w n) (z : Int) s → At (d + 6) 25 2 [some (.inr (.inr 33)), some (.inl (n : Int)), some (.inl (z : Int)), some (.inl (s : Int))] [] σ' K := by
        intro m
        induction m with
        | zero =>
          intro s hs hs2 σ' fr A hb
          obtain rfl : s = 2 ^ C.1 := by omega
          have hF' := hF.fr fr rfl
          refine At.blk rfl rfl rfl fun sx => ?_
          simp (decide := true) only [RR, ms_app, toList_some, toList_none, if_true, if_false, true_and, and_true, cond_true, sm0, sm1, sm1l, sm2, lc_lt, lc_gt, lc_eq, Int.toNat_natCast, Int.reduceToNat, Nat.reduceAdd, Nat.reduceEqDiff, Int.reduceLT, Int.reduceEq, Int.reduceNeg, Int.reduceAdd, Int.reduceMul, Nat.reduceMul, ms_n, ms_i, ms_l, ms_p, PX, fxX hF', (hcx.xr fr).1, r1]
          rw [if_neg (by omega)]
          refine At.blk rfl rfl rfl fun sx => ?_
          simp (decide := true) only [RR, ms_app, toList_some, toList_none, if_true, if_false, true_and, and_true, cond_true, sm0, sm1, sm1l, sm2, lc_lt, lc_gt, lc_eq, Int.toNat_natCast, Int.reduceToNat, Nat.reduceAdd, Nat.reduceEqDiff, Int.reduceLT, Int.reduceEq, Int.reduceNeg, Int.reduceAdd, Int.reduceMul, Nat.reduceMul, ms_n, ms_i, ms_l, ms_p, PX, w2 ()]
          refine ih (z + 1) (by omega) (by omega) σ' _ fr A ?_
          have := hb.up
          rw [show ((z + 1 : Nat) : Int) = (z : Int) + 1 by omega]
          exact this
        | succ m ih2 =>
          intro s hs hs2 σ' fr A hb
          have hs3 : s < 2 ^ C.1 := by omega
          have hF' := hF.fr fr rfl
          have w1 : Unit → w32 ((s : Int) + 1) = ((s + 1 : Nat) : Int) := fun _ => by rw [w32_small (by omega) (by omega)]; omega
          have three : ∀ σ', Fr xrL xrT σ σ' → AbX σ' C w n → (bcF (s : Int) = (z : Int) → ¬rsQ C w n s) → At (d + 6) 25 3 [some (.inr (.inr 33)), some (.inl (n : Int)), some (.inl (z : Int)), some (.inl (s : Int))] [] σ' K := by
            intro σ' fr A hno
            refine At.blk rfl rfl rfl fun sx => ?_
            simp (decide := true) only [RR, ms_app, toList_some, toList_none, if_true, if_false, true_and, and_true, cond_true, sm0, sm1, sm1l, sm2, lc_lt, lc_gt, lc_eq, Int.toNat_natCast, Int.reduceToNat, Nat.reduceAdd, Nat.reduceEqDiff, Int.reduceLT, Int.reduceEq, Int.reduceNeg, Int.reduceAdd, Int.reduceMul, Nat.reduceMul, ms_n, ms_i, ms_l, ms_p, PX, w1 ()]
            exact ih2 (s + 1) (by omega) (by omega) σ' fr A (hb.no hno)
          refine At.blk rfl rfl rfl fun sx => ?_
          simp (decide := true) only [RR, ms_app, toList_some, toList_none, if_true, if_false, true_and, and_true, cond_true, sm0, sm1, sm1l, sm2, lc_lt, lc_gt, lc_eq, Int.toNat_natCast, Int.reduceToNat, Nat.reduceAdd, Nat.reduceEqDiff, Int.reduceLT, Int.reduceEq, Int.reduceNeg, Int.reduceAdd, Int.reduceMul, Nat.reduceMul, ms_n, ms_i, ms_l, ms_p, PX, fxX hF', (hcx.xr fr).1, r1]
          rw [if_pos (by omega)]
          refine cal_of rfl (x_bitCount ?_)
          simp (decide := true) only [RR, ms_app, toList_some, toList_none, if_true, if_false, true_and, and_true, cond_true, sm0, sm1, sm1l, sm2, lc_lt, lc_gt, lc_eq, Int.toNat_natCast, Int.reduceToNat, Nat.reduceAdd, Nat.reduceEqDiff, Int.reduceLT, Int.reduceEq, Int.reduceNeg, Int.reduceAdd, Int.reduceMul, Nat.reduceMul, ms_n, ms_i, ms_l, ms_p, PX]
          by_cases e1 : bcF (s : Int) = (z : Int)
          · rw [if_pos e1]
            refine cal_of rfl (x_isAtRest hF' hC hs3 (hcx.xr fr) hw (hsx.xr fr) hn h9 A (fun σ2 v f2 A2 hv => ?_))
            rcases hv with ⟨rfl, hv⟩ | ⟨rfl, hv⟩
            · simp (decide := true) only [RR, ms_app, toList_some, toList_none, if_true, if_false, true_and, and_true, cond_true, sm0, sm1, sm1l, sm2, lc_lt, lc_gt, lc_eq, Int.toNat_natCast, Int.reduceToNat, Nat.reduceAdd, Nat.reduceEqDiff, Int.reduceLT, Int.reduceEq, Int.reduceNeg, Int.reduceAdd, Int.reduceMul, Nat.reduceMul, ms_n, ms_i, ms_l, ms_p, PX]
              exact hK σ2 _ (fr.trans f2) (hb.found hs3 e1 (by omega) hv)
            · simp (decide := true) only [RR, ms_app, toList_some, toList_none, if_true, if_false, true_and, and_true, cond_true, sm0, sm1, sm1l, sm2, lc_lt, lc_gt, lc_eq, Int.toNat_natCast, Int.reduceToNat, Nat.reduceAdd, Nat.reduceEqDiff, Int.reduceLT, Int.reduceEq, Int.reduceNeg, Int.reduceAdd, Int.reduceMul, Nat.reduceMul, ms_n, ms_i, ms_l, ms_p, PX]
              exact three σ2 (fr.trans f2) A2 (fun _ => hv)
          · rw [if_neg e1]
            exact three σ' fr A (fun h => absurd h e1)
      exact loop2 (2 ^ C.1) 0 rfl (Nat.zero_le _) σ' fr A hb
  exact loop (C.1 + 1) 0 rfl (by omega) σ0 none (f0.mono rfl) (fun s hs => Or.inl (h0 s (by omega))) (fun t ht hc => by
    have := bc_le C.1 (by omega) t ht
    omega)
theorem x_rest {a : Int} (hF : Fix σ) (hW : Wrl σ C w l) (hK : ∀ σ' v, Fr xrL xrT σ σ' → rstR C w a v → K (some (.inl v)) σ') : Mt (d + 8) 121 [.inr (.inr 0), .inl a] σ K := by
  refine Mt.go (lv := [some (.inr (.inr 0)), some (.inl a)]) rfl rfl rfl ?_
  obtain ⟨hC, hcx, hcm, hw, hsx, hsm, hkx, hkm, hkv, h9⟩ := hW
  have n7 := hC.1
  have en : σ 28 2 = w.1 := hsx.1
  refine At.blk rfl rfl rfl fun sx => ?_
  simp (decide := true) only [RR, ms_app, toList_some, toList_none, if_true, if_false, true_and, and_true, cond_true, sm0, sm1, sm1l, sm2, lc_lt, lc_gt, lc_eq, Int.toNat_natCast, Int.reduceToNat, Nat.reduceAdd, Nat.reduceEqDiff, Int.reduceLT, Int.reduceEq, Int.reduceNeg, Int.reduceAdd, Int.reduceMul, Nat.reduceMul, ms_n, ms_i, ms_l, ms_p, PX, fxX hF]
  refine cal_of rfl (x_canCome hF (by omega) (by decide) (fun h1 => ?_) (fun h1 => ?_))
  · rw [en] at h1
    obtain ⟨n, rfl⟩ := Int.eq_ofNat_of_zero_le (show 0 ≤ a by omega)
    simp (decide := true) only [RR, ms_app, toList_some, toList_none, if_true, if_false, true_and, and_true, cond_true, sm0, sm1, sm1l, sm2, lc_lt, lc_gt, lc_eq, Int.toNat_natCast, Int.reduceToNat, Nat.reduceAdd, Nat.reduceEqDiff, Int.reduceLT, Int.reduceEq, Int.reduceNeg, Int.reduceAdd, Int.reduceMul, Nat.reduceMul, ms_n, ms_i, ms_l, ms_p, PX, fxX hF]
    refine cal_of rfl (x_deafAtRest hF hC hcx hw hsx (by omega) (by omega) (fun σ1 v f1 hb => ?_))
    simp (decide := true) only [RR, ms_app, toList_some, toList_none, if_true, if_false, true_and, and_true, cond_true, sm0, sm1, sm1l, sm2, lc_lt, lc_gt, lc_eq, Int.toNat_natCast, Int.reduceToNat, Nat.reduceAdd, Nat.reduceEqDiff, Int.reduceLT, Int.reduceEq, Int.reduceNeg, Int.reduceAdd, Int.reduceMul, Nat.reduceMul, ms_n, ms_i, ms_l, ms_p, PX]
    refine At.blk rfl rfl rfl fun sx => ?_
    simp (decide := true) only [RR, ms_app, toList_some, toList_none, if_true, if_false, true_and, and_true, cond_true, sm0, sm1, sm1l, sm2, lc_lt, lc_gt, lc_eq, Int.toNat_natCast, Int.reduceToNat, Nat.reduceAdd, Nat.reduceEqDiff, Int.reduceLT, Int.reduceEq, Int.reduceNeg, Int.reduceAdd, Int.reduceMul, Nat.reduceMul, ms_n, ms_i, ms_l, ms_p, PX]
    exact hK σ1 v f1 ⟨fun _ => by rw [Int.toNat_natCast]; exact hb, fun h => absurd (by omega) h⟩
  · rw [en] at h1
    simp (decide := true) only [RR, ms_app, toList_some, toList_none, if_true, if_false, true_and, and_true, cond_true, sm0, sm1, sm1l, sm2, lc_lt, lc_gt, lc_eq, Int.toNat_natCast, Int.reduceToNat, Nat.reduceAdd, Nat.reduceEqDiff, Int.reduceLT, Int.reduceEq, Int.reduceNeg, Int.reduceAdd, Int.reduceMul, Nat.reduceMul, ms_n, ms_i, ms_l, ms_p, PX]
    refine At.blk rfl rfl rfl fun sx => ?_
    simp (decide := true) only [RR, ms_app, toList_some, toList_none, if_true, if_false, true_and, and_true, cond_true, sm0, sm1, sm1l, sm2, lc_lt, lc_gt, lc_eq, Int.toNat_natCast, Int.reduceToNat, Nat.reduceAdd, Nat.reduceEqDiff, Int.reduceLT, Int.reduceEq, Int.reduceNeg, Int.reduceAdd, Int.reduceMul, Nat.reduceMul, ms_n, ms_i, ms_l, ms_p, PX]
    refine At.blk rfl rfl rfl fun sx => ?_
    simp (decide := true) only [RR, ms_app, toList_some, toList_none, if_true, if_false, true_and, and_true, cond_true, sm0, sm1, sm1l, sm2, lc_lt, lc_gt, lc_eq, Int.toNat_natCast, Int.reduceToNat, Nat.reduceAdd, Nat.reduceEqDiff, Int.reduceLT, Int.reduceEq, Int.reduceNeg, Int.reduceAdd, Int.reduceMul, Nat.reduceMul, ms_n, ms_i, ms_l, ms_p, PX]
    exact hK σ _ Fr.same ⟨fun h2 => absurd h2 h1, fun _ => rfl⟩
/-! the model's -/
/-- what the model has laid -/
def ThM (σ : mM) (C : Ct) (w : Sk) (n m : Nat) : Prop := ∀ s : Nat, s < m → ∀ p, p < C.1 → σ 188 (7 * s + p) = arS C w n (s : Int) p
theorem m_laysThen {n : Nat} (hF : Fix σ) (hC : CtV C) (hcm : CtM σ C) (hw : SkV C w) (hsm : SkM σ C w) (h53 : σ 146 53 = 0) (hn : n ≤ 30) (h9 : w.1 + n ≤ 999) (hK : ∀ σ', Fr mrL mrT σ σ' → ThM σ' C w n (2 ^ C.1) → K none σ') : Mt (d + 11) 216 [.inr (.inr 146), .inl (n : Int)] σ K := by
  refine Mt.go (lv := [some (.inr (.inr 146)), some (.inl (n : Int)), none, none]) rfl rfl rfl ?_
  have n7 := hC.1
  have h7 := pwN7 C.1 n7
  have w0 := hw.1
  obtain ⟨r1, -⟩ := one_shl C.1 (by omega)
  refine At.blk rfl rfl rfl fun sx => ?_
  simp (decide := true) only [RR, ms_app, toList_some, toList_none, if_true, if_false, true_and, and_true, cond_true, sm0, sm1, sm1l, sm2, lc_lt, lc_gt, lc_eq, Int.toNat_natCast, Int.reduceToNat, Nat.reduceAdd, Nat.reduceEqDiff, Int.reduceLT, Int.reduceEq, Int.reduceNeg, Int.reduceAdd, Int.reduceMul, Nat.reduceMul, ms_n, ms_i, ms_l, ms_p, PM]
  refine cal_of rfl (m_putsAside hF (fun σ1 t1 e1 z1 _ => ?_))
  simp (decide := true) only [RR, ms_app, toList_some, toList_none, if_true, if_false, true_and, and_true, cond_true, sm0, sm1, sm1l, sm2, lc_lt, lc_gt, lc_eq, Int.toNat_natCast, Int.reduceToNat, Nat.reduceAdd, Nat.reduceEqDiff, Int.reduceLT, Int.reduceEq, Int.reduceNeg, Int.reduceAdd, Int.reduceMul, Nat.reduceMul, ms_n, ms_i, ms_l, ms_p, PM]
  have loop : ∀ m s : Nat, 2 ^ C.1 - s = m → s ≤ 2 ^ C.1 → ∀ (σ' : mM) (o3 : Option mV), Th σ σ' → SkM σ' C w → ThM σ' C w n s → At (d + 10) 216 1 [some (.inr (.inr 146)), some (.inl (n : Int)), some (.inl (s : Int)), o3] [] σ' K := by
    intro m
    induction m with
    | zero =>
      intro s hs hs2 σ' o3 t sk A
      obtain rfl : s = 2 ^ C.1 := by omega
      have hF' := hF.fr t.1 rfl
      refine At.blk rfl rfl rfl fun sx => ?_
      simp (decide := true) only [RR, ms_app, toList_some, toList_none, if_true, if_false, true_and, and_true, cond_true, sm0, sm1, sm1l, sm2, lc_lt, lc_gt, lc_eq, Int.toNat_natCast, Int.reduceToNat, Nat.reduceAdd, Nat.reduceEqDiff, Int.reduceLT, Int.reduceEq, Int.reduceNeg, Int.reduceAdd, Int.reduceMul, Nat.reduceMul, ms_n, ms_i, ms_l, ms_p, PM]
      refine cal_of rfl (m_partMany hF' ?_)
      simp (decide := true) only [RR, ms_app, toList_some, toList_none, if_true, if_false, true_and, and_true, cond_true, sm0, sm1, sm1l, sm2, lc_lt, lc_gt, lc_eq, Int.toNat_natCast, Int.reduceToNat, Nat.reduceAdd, Nat.reduceEqDiff, Int.reduceLT, Int.reduceEq, Int.reduceNeg, Int.reduceAdd, Int.reduceMul, Nat.reduceMul, ms_n, ms_i, ms_l, ms_p, PM, (hcm.th t.1).1, r1]
      rw [if_neg (by omega)]
      refine At.blk rfl rfl rfl fun sx => ?_
      simp (decide := true) only [RR, ms_app, toList_some, toList_none, if_true, if_false, true_and, and_true, cond_true, sm0, sm1, sm1l, sm2, lc_lt, lc_gt, lc_eq, Int.toNat_natCast, Int.reduceToNat, Nat.reduceAdd, Nat.reduceEqDiff, Int.reduceLT, Int.reduceEq, Int.reduceNeg, Int.reduceAdd, Int.reduceMul, Nat.reduceMul, ms_n, ms_i, ms_l, ms_p, PM]
      refine cal_of rfl (m_takesBack hF' t h53 (fun σ3 f3 g3 => ?_))
      simp (decide := true) only [RR, ms_app, toList_some, toList_none, if_true, if_false, true_and, and_true, cond_true, sm0, sm1, sm1l, sm2, lc_lt, lc_gt, lc_eq, Int.toNat_natCast, Int.reduceToNat, Nat.reduceAdd, Nat.reduceEqDiff, Int.reduceLT, Int.reduceEq, Int.reduceNeg, Int.reduceAdd, Int.reduceMul, Nat.reduceMul, ms_n, ms_i, ms_l, ms_p, PM]
      exact hK σ3 f3 (fun s hs p hp => (g3 188 _ rfl).trans (A s hs p hp))
    | succ m ih =>
      intro s hs hs2 σ' o3 t sk A
      have hs3 : s < 2 ^ C.1 := by omega
      have hF' := hF.fr t.1 rfl
      have w1 : Unit → w32 ((s : Int) + 1) = ((s + 1 : Nat) : Int) := fun _ => by rw [w32_small (by omega) (by omega)]; omega
      have w7 : Unit → w32 (7 * (s : Int)) = ((7 * s : Nat) : Int) := fun _ => by rw [w32_small (by omega) (by omega)]; omega
      refine At.blk rfl rfl rfl fun sx => ?_
      simp (decide := true) only [RR, ms_app, toList_some, toList_none, if_true, if_false, true_and, and_true, cond_true, sm0, sm1, sm1l, sm2, lc_lt, lc_gt, lc_eq, Int.toNat_natCast, Int.reduceToNat, Nat.reduceAdd, Nat.reduceEqDiff, Int.reduceLT, Int.reduceEq, Int.reduceNeg, Int.reduceAdd, Int.reduceMul, Nat.reduceMul, ms_n, ms_i, ms_l, ms_p, PM]
      refine cal_of rfl (m_partMany hF' ?_)
      simp (decide := true) only [RR, ms_app, toList_some, toList_none, if_true, if_false, true_and, and_true, cond_true, sm0, sm1, sm1l, sm2, lc_lt, lc_gt, lc_eq, Int.toNat_natCast, Int.reduceToNat, Nat.reduceAdd, Nat.reduceEqDiff, Int.reduceLT, Int.reduceEq, Int.reduceNeg, Int.reduceAdd, Int.reduceMul, Nat.reduceMul, ms_n, ms_i, ms_l, ms_p, PM, (hcm.th t.1).1, r1]
      rw [if_pos (by omega)]
      have loop2 : ∀ m q : Nat, C.1 - q = m → q ≤ C.1 → ∀ σ', Th σ σ' → SkM σ' C (w.1, w.2.1, w.2.2.1, (fun j => if j < q then bit (s : Int) j else w.2.2.2.1 j), w.2.2.2.2) → ThM σ' C w n s → At (d + 10) 216 2 [some (.inr (.inr 146)), some (.inl (n : Int)), some (.inl (s : Int)), some (.inl (q : Int))] [] σ' K := by
        intro m
        induction m with
        | zero =>
          intro q hq hq2 σ' t sk A
          obtain rfl : q = C.1 := by omega
          have hF' := hF.fr t.1 rfl
          have sk2 : SkM σ' C (dfW w (s : Int)) := by
            refine ⟨sk.1, fun j hj => ?_⟩
            obtain ⟨a1, a2, a3, a4⟩ := sk.2 j hj
            refine ⟨a1, a2, ?_, a4⟩
            rw [a3]
            show (if j < C.1 then bit (s : Int) j else w.2.2.2.1 j) = bit (s : Int) j
            rw [if_pos hj]
          refine At.blk rfl rfl rfl fun sx => ?_
          simp (decide := true) only [RR, ms_app, toList_some, toList_none, if_true, if_false, true_and, and_true, cond_true, sm0, sm1, sm1l, sm2, lc_lt, lc_gt, lc_eq, Int.toNat_natCast, Int.reduceToNat, Nat.reduceAdd, Nat.reduceEqDiff, Int.reduceLT, Int.reduceEq, Int.reduceNeg, Int.reduceAdd, Int.reduceMul, Nat.reduceMul, ms_n, ms_i, ms_l, ms_p, PM]
          refine cal_of rfl (m_partMany hF' ?_)
          simp (decide := true) only [RR, ms_app, toList_some, toList_none, if_true, if_false, true_and, and_true, cond_true, sm0, sm1, sm1l, sm2, lc_lt, lc_gt, lc_eq, Int.toNat_natCast, Int.reduceToNat, Nat.reduceAdd, Nat.reduceEqDiff, Int.reduceLT, Int.reduceEq, Int.reduceNeg, Int.reduceAdd, Int.reduceMul, Nat.reduceMul, ms_n, ms_i, ms_l, ms_p, PM, (hcm.th t.1).1]
          rw [if_neg (by omega)]
          refine At.blk rfl rfl rfl fun sx => ?_
          simp (decide := true) only [RR, ms_app, toList_some, toList_none, if_true, if_false, true_and, and_true, cond_true, sm0, sm1, sm1l, sm2, lc_lt, lc_gt, lc_eq, Int.toNat_natCast, Int.reduceToNat, Nat.reduceAdd, Nat.reduceEqDiff, Int.reduceLT, Int.reduceEq, Int.reduceNeg, Int.reduceAdd, Int.reduceMul, Nat.reduceMul, ms_n, ms_i, ms_l, ms_p, PM]
          refine cal_of rfl (m_nights1 hF' hC (dfW_V hw) (by omega) (by show w.1 ≤ 1100; omega) t hcm sk2 (fun σ2 t2 s2 f2 _ _ _ => ?_))
          simp (decide := true) only [RR, ms_app, toList_some, toList_none, if_true, if_false, true_and, and_true, cond_true, sm0, sm1, sm1l, sm2, lc_lt, lc_gt, lc_eq, Int.toNat_natCast, Int.reduceToNat, Nat.reduceAdd, Nat.reduceEqDiff, Int.reduceLT, Int.reduceEq, Int.reduceNeg, Int.reduceAdd, Int.reduceMul, Nat.reduceMul, ms_n, ms_i, ms_l, ms_p, PM]
          have loop3 : ∀ m q : Nat, C.1 - q = m → q ≤ C.1 → ∀ σ', Th σ σ' → SkM σ' C (ntM C (dfW w (s : Int)) n) → ThM σ' C w n s → (∀ j, j < q → σ' 188 (7 * s + j) = arS C w n (s : Int) j) → At (d + 10) 216 4 [some (.inr (.inr 146)), some (.inl (n : Int)), some (.inl (s : Int)), some (.inl (q : Int))] [] σ' K := by
            intro m
            induction m with
            | zero =>
              intro q hq hq2 σ' t sk A B
              obtain rfl : q = C.1 := by omega
              have hF' := hF.fr t.1 rfl
              refine At.blk rfl rfl rfl fun sx => ?_
              simp (decide := true) only [RR, ms_app, toList_some, toList_none, if_true, if_false, true_and, and_true, cond_true, sm0, sm1, sm1l, sm2, lc_lt, lc_gt, lc_eq, Int.toNat_natCast, Int.reduceToNat, Nat.reduceAdd, Nat.reduceEqDiff, Int.reduceLT, Int.reduceEq, Int.reduceNeg, Int.reduceAdd, Int.reduceMul, Nat.reduceMul, ms_n, ms_i, ms_l, ms_p, PM]
              refine cal_of rfl (m_partMany hF' ?_)
              simp (decide := true) only [RR, ms_app, toList_some, toList_none, if_true, if_false, true_and, and_true, cond_true, sm0, sm1, sm1l, sm2, lc_lt, lc_gt, lc_eq, Int.toNat_natCast, Int.reduceToNat, Nat.reduceAdd, Nat.reduceEqDiff, Int.reduceLT, Int.reduceEq, Int.reduceNeg, Int.reduceAdd, Int.reduceMul, Nat.reduceMul, ms_n, ms_i, ms_l, ms_p, PM, (hcm.th t.1).1]
              rw [if_neg (by omega)]
              refine At.blk rfl rfl rfl fun sx => ?_
              simp (decide := true) only [RR, ms_app, toList_some, toList_none, if_true, if_false, true_and, and_true, cond_true, sm0, sm1, sm1l, sm2, lc_lt, lc_gt, lc_eq, Int.toNat_natCast, Int.reduceToNat, Nat.reduceAdd, Nat.reduceEqDiff, Int.reduceLT, Int.reduceEq, Int.reduceNeg, Int.reduceAdd, Int.reduceMul, Nat.reduceMul, ms_n, ms_i, ms_l, ms_p, PM]
              refine cal_of rfl (m_triesAnew hF' t (fun σ4 f4 e4 z4 => ?_))
              simp (decide := true) only [RR, ms_app, toList_some, toList_none, if_true, if_false, true_and, and_true, cond_true, sm0, sm1, sm1l, sm2, lc_lt, lc_gt, lc_eq, Int.toNat_natCast, Int.reduceToNat, Nat.reduceAdd, Nat.reduceEqDiff, Int.reduceLT, Int.reduceEq, Int.reduceNeg, Int.reduceAdd, Int.reduceMul, Nat.reduceMul, ms_n, ms_i, ms_l, ms_p, PM, w1 ()]
              refine ih (s + 1) (by omega) (by omega) σ4 _ (t.again f4 e4) (hsm.eq e4 n7) (fun u hu p hp => ?_)
              rw [f4 188 _ rfl]
              by_cases e : u = s
              · rw [e]; exact B p hp
              · exact A u (by omega) p hp
            | succ m ih3 =>
              intro q hq hq2 σ' t sk A B
              have hq3 : q < C.1 := by omega
              have hF' := hF.fr t.1 rfl
              have w2 : Unit → w32 ((q : Int) + 1) = ((q + 1 : Nat) : Int) := fun _ => by rw [w32_small (by omega) (by omega)]; omega
              have i1 : Unit → w32 (((7 * s : Nat) : Int) + (q : Int)) = ((7 * s + q : Nat) : Int) := fun _ => by rw [w32_small (by omega) (by omega)]; omega
              refine At.blk rfl rfl rfl fun sx => ?_
              simp (decide := true) only [RR, ms_app, toList_some, toList_none, if_true, if_false, true_and, and_true, cond_true, sm0, sm1, sm1l, sm2, lc_lt, lc_gt, lc_eq, Int.toNat_natCast, Int.reduceToNat, Nat.reduceAdd, Nat.reduceEqDiff, Int.reduceLT, Int.reduceEq, Int.reduceNeg, Int.reduceAdd, Int.reduceMul, Nat.reduceMul, ms_n, ms_i, ms_l, ms_p, PM]
              refine cal_of rfl (m_partMany hF' ?_)
              simp (decide := true) only [RR, ms_app, toList_some, toList_none, if_true, if_false, true_and, and_true, cond_true, sm0, sm1, sm1l, sm2, lc_lt, lc_gt, lc_eq, Int.toNat_natCast, Int.reduceToNat, Nat.reduceAdd, Nat.reduceEqDiff, Int.reduceLT, Int.reduceEq, Int.reduceNeg, Int.reduceAdd, Int.reduceMul, Nat.reduceMul, ms_n, ms_i, ms_l, ms_p, PM, (hcm.th t.1).1, fxM hF', w7 (), i1 ()]
              rw [if_pos (by omega)]
              refine cal_of rfl (m_airOf hF' (by omega) ?_)
              have ea : σ' 182 (1 + 4 * q) = arS C w n (s : Int) q := (sk.2 q hq3).1
              simp (decide := true) only [RR, ms_app, toList_some, toList_none, if_true, if_false, true_and, and_true, cond_true, sm0, sm1, sm1l, sm2, lc_lt, lc_gt, lc_eq, Int.toNat_natCast, Int.reduceToNat, Nat.reduceAdd, Nat.reduceEqDiff, Int.reduceLT, Int.reduceEq, Int.reduceNeg, Int.reduceAdd, Int.reduceMul, Nat.reduceMul, ms_n, ms_i, ms_l, ms_p, PM, ea]
              refine ⟨⟨by omega, by omega⟩, ?_⟩
              rw [w2 ()]
              refine ih3 (q + 1) (by omega) (by omega) _ ?_ (sk.oth (by decide)) (fun u hu p hp => ?_) (fun j hj => ?_)
              · exact ⟨t.1.setr rfl, fun k hk => t.2.1 k hk, fun k hk => t.2.2.1 k hk, t.2.2.2⟩
              · rw [ms_app, if_pos rfl, if_neg (by omega)]; exact A u hu p hp
              · rw [ms_app, if_pos rfl]
                by_cases e : j = q
                · rw [if_pos (by omega), e]
                · rw [if_neg (by omega)]; exact B j (by omega)
          refine loop3 C.1 0 rfl (by omega) σ2 t2 s2 (fun u hu p hp => (f2 188 _ rfl).trans (A u hu p hp)) (fun j hj => absurd hj (by omega))
        | succ m ih2 =>
          intro q hq hq2 σ' t sk A
          have hq3 : q < C.1 := by omega
          have hF' := hF.fr t.1 rfl
          have w2 : Unit → w32 ((q : Int) + 1) = ((q + 1 : Nat) : Int) := fun _ => by rw [w32_small (by omega) (by omega)]; omega
          have i1 : Unit → w32 (4 * (q : Int)) = ((4 * q : Nat) : Int) := fun _ => by rw [w32_small (by omega) (by omega)]; omega
          have i2 : Unit → w32 (3 + ((4 * q : Nat) : Int)) = ((3 + 4 * q : Nat) : Int) := fun _ => by rw [w32_small (by omega) (by omega)]; omega
          have bi : i_and (i_shr (s : Int) (q : Int)) 1 = bit (s : Int) q := by rw [i_bit (by omega) (by omega) (by omega), Int.toNat_natCast]
          refine At.blk rfl rfl rfl fun sx => ?_
          simp (decide := true) only [RR, ms_app, toList_some, toList_none, if_true, if_false, true_and, and_true, cond_true, sm0, sm1, sm1l, sm2, lc_lt, lc_gt, lc_eq, Int.toNat_natCast, Int.reduceToNat, Nat.reduceAdd, Nat.reduceEqDiff, Int.reduceLT, Int.reduceEq, Int.reduceNeg, Int.reduceAdd, Int.reduceMul, Nat.reduceMul, ms_n, ms_i, ms_l, ms_p, PM]
          refine cal_of rfl (m_partMany hF' ?_)
          simp (decide := true) only [RR, ms_app, toList_some, toList_none, if_true, if_false, true_and, and_true, cond_true, sm0, sm1, sm1l, sm2, lc_lt, lc_gt, lc_eq, Int.toNat_natCast, Int.reduceToNat, Nat.reduceAdd, Nat.reduceEqDiff, Int.reduceLT, Int.reduceEq, Int.reduceNeg, Int.reduceAdd, Int.reduceMul, Nat.reduceMul, ms_n, ms_i, ms_l, ms_p, PM, (hcm.th t.1).1, bi, fxM hF', i1 (), i2 ()]
          rw [if_pos (by omega)]
          refine ⟨⟨by omega, by omega⟩, ?_⟩
          rw [w2 ()]
          refine ih2 (q + 1) (by omega) (by omega) _ (t.put (by omega)) ⟨?_, fun j hj => ?_⟩ (fun u hu p hp => A u hu p hp)
          · rw [ms_app, if_pos rfl, if_neg (by omega)]; exact sk.1
          · obtain ⟨a1, a2, a3, a4⟩ := sk.2 j hj
            refine ⟨by rw [ms_app, if_pos rfl, if_neg (by omega)]; exact a1, by rw [ms_app, if_pos rfl, if_neg (by omega)]; exact a2, ?_, by rw [ms_app, if_pos rfl, if_neg (by omega)]; exact a4⟩
            show mj_set σ' 182 (3 + 4 * q) (bit (s : Int) q) 182 (3 + 4 * j) = if j < q + 1 then bit (s : Int) j else w.2.2.2.1 j
            rw [ms_app, if_pos rfl]
            by_cases e2 : j = q
            · rw [if_pos (by omega), if_pos (by omega), e2]
            · rw [if_neg (by omega), a3]
              show (if j < q then bit (s : Int) j else w.2.2.2.1 j) = _
              by_cases e3 : j < q
              · rw [if_pos e3, if_pos (by omega)]
              · rw [if_neg e3, if_neg (by omega)]
      refine loop2 C.1 0 rfl (by omega) σ' t ⟨sk.1, fun j hj => ?_⟩ A
      obtain ⟨a1, a2, a3, a4⟩ := sk.2 j hj
      exact ⟨a1, a2, a3, a4⟩
  exact loop (2 ^ C.1) 0 rfl (Nat.zero_le _) σ1 none t1 (hsm.eq e1 n7) (fun u hu => absurd hu (by omega))
theorem m_isRest {n s : Nat} (hF : Fix σ) (hC : CtV C) (hs : s < 2 ^ C.1) (hcm : CtM σ C) (A : ThM σ C w n (2 ^ C.1)) (hK : ∀ v, (v = 1 ∧ rsQ C w n s ∨ v = 0 ∧ ¬rsQ C w n s) → K (some (.inl v)) σ) : Mt (d + 2) 217 [.inr (.inr 146), .inl (s : Int)] σ K := by
  refine Mt.go (lv := [some (.inr (.inr 146)), some (.inl (s : Int)), none]) rfl rfl rfl ?_
  have n7 := hC.1
  have h7 := pwN7 C.1 n7
  refine At.blk rfl rfl rfl fun sx => ?_
  simp (decide := true) only [RR, ms_app, toList_some, toList_none, if_true, if_false, true_and, and_true, cond_true, sm0, sm1, sm1l, sm2, lc_lt, lc_gt, lc_eq, Int.toNat_natCast, Int.reduceToNat, Nat.reduceAdd, Nat.reduceEqDiff, Int.reduceLT, Int.reduceEq, Int.reduceNeg, Int.reduceAdd, Int.reduceMul, Nat.reduceMul, ms_n, ms_i, ms_l, ms_p, PM]
  have w7 : Unit → w32 (7 * (s : Int)) = ((7 * s : Nat) : Int) := fun _ => by rw [w32_small (by omega) (by omega)]; omega
  have loop : ∀ m p : Nat, C.1 - p = m → p ≤ C.1 → (∀ j, j < p → arS C w n (s : Int) j ≤ arS C w n (i_xor (s : Int) (i_shl 1 (j : Int))) j) → At (d + 1) 217 1 [some (.inr (.inr 146)), some (.inl (s : Int)), some (.inl (p : Int))] [] σ K := by
    intro m
    induction m with
    | zero =>
      intro p hp hp2 hq
      obtain rfl : p = C.1 := by omega
      refine At.blk rfl rfl rfl fun sx => ?_
      simp (decide := true) only [RR, ms_app, toList_some, toList_none, if_true, if_false, true_and, and_true, cond_true, sm0, sm1, sm1l, sm2, lc_lt, lc_gt, lc_eq, Int.toNat_natCast, Int.reduceToNat, Nat.reduceAdd, Nat.reduceEqDiff, Int.reduceLT, Int.reduceEq, Int.reduceNeg, Int.reduceAdd, Int.reduceMul, Nat.reduceMul, ms_n, ms_i, ms_l, ms_p, PM]
      refine cal_of rfl (m_partMany hF ?_)
      simp (decide := true) only [RR, ms_app, toList_some, toList_none, if_true, if_false, true_and, and_true, cond_true, sm0, sm1, sm1l, sm2, lc_lt, lc_gt, lc_eq, Int.toNat_natCast, Int.reduceToNat, Nat.reduceAdd, Nat.reduceEqDiff, Int.reduceLT, Int.reduceEq, Int.reduceNeg, Int.reduceAdd, Int.reduceMul, Nat.reduceMul, ms_n, ms_i, ms_l, ms_p, PM, hcm.1]
      rw [if_neg (by omega)]
      refine At.blk rfl rfl rfl fun sx => ?_
      simp (decide := true) only [RR, ms_app, toList_some, toList_none, if_true, if_false, true_and, and_true, cond_true, sm0, sm1, sm1l, sm2, lc_lt, lc_gt, lc_eq, Int.toNat_natCast, Int.reduceToNat, Nat.reduceAdd, Nat.reduceEqDiff, Int.reduceLT, Int.reduceEq, Int.reduceNeg, Int.reduceAdd, Int.reduceMul, Nat.reduceMul, ms_n, ms_i, ms_l, ms_p, PM]
      exact hK 1 (Or.inl ⟨rfl, hq⟩)
    | succ m ih =>
      intro p hp hp2 hq
      have hp3 : p < C.1 := by omega
      have w1 : Unit → w32 ((p : Int) + 1) = ((p + 1 : Nat) : Int) := fun _ => by rw [w32_small (by omega) (by omega)]; omega
      obtain ⟨x1, -⟩ := xor_bit (v := (s : Int)) n7 hp3 (by omega) (by rw [← pw_cast]; omega)
      generalize hX : i_xor (s : Int) (i_shl 1 (p : Int)) = X at *
      obtain ⟨X, rfl⟩ := Int.eq_ofNat_of_zero_le x1.1
      have x2 : X < 2 ^ C.1 := by
        have := x1.2
        rw [← pw_cast] at this
        omega
      have w8 : Unit → w32 (7 * (X : Int)) = ((7 * X : Nat) : Int) := fun _ => by rw [w32_small (by omega) (by omega)]; omega
      have i1 : Unit → w32 (((7 * s : Nat) : Int) + (p : Int)) = ((7 * s + p : Nat) : Int) := fun _ => by rw [w32_small (by omega) (by omega)]; omega
      have i2 : Unit → w32 (((7 * X : Nat) : Int) + (p : Int)) = ((7 * X + p : Nat) : Int) := fun _ => by rw [w32_small (by omega) (by omega)]; omega
      refine At.blk rfl rfl rfl fun sx => ?_
      simp (decide := true) only [RR, ms_app, toList_some, toList_none, if_true, if_false, true_and, and_true, cond_true, sm0, sm1, sm1l, sm2, lc_lt, lc_gt, lc_eq, Int.toNat_natCast, Int.reduceToNat, Nat.reduceAdd, Nat.reduceEqDiff, Int.reduceLT, Int.reduceEq, Int.reduceNeg, Int.reduceAdd, Int.reduceMul, Nat.reduceMul, ms_n, ms_i, ms_l, ms_p, PM]
      refine cal_of rfl (m_partMany hF ?_)
      simp (decide := true) only [RR, ms_app, toList_some, toList_none, if_true, if_false, true_and, and_true, cond_true, sm0, sm1, sm1l, sm2, lc_lt, lc_gt, lc_eq, Int.toNat_natCast, Int.reduceToNat, Nat.reduceAdd, Nat.reduceEqDiff, Int.reduceLT, Int.reduceEq, Int.reduceNeg, Int.reduceAdd, Int.reduceMul, Nat.reduceMul, ms_n, ms_i, ms_l, ms_p, PM, hcm.1, fxM hF, hX, w7 (), w8 (), i1 (), i2 (), A X x2 p hp3, A s hs p hp3]
      rw [if_pos (by omega)]
      refine ⟨⟨by omega, by omega⟩, ⟨by omega, by omega⟩, ?_⟩
      by_cases g : arS C w n (X : Int) p < arS C w n (s : Int) p
      · rw [if_pos g]
        first | exact hK 0 (Or.inr ⟨rfl, fun h => by have := h p hp3; rw [hX] at this; omega⟩) | exact ⟨Or.inl rfl, hK 0 (Or.inr ⟨rfl, fun h => by have := h p hp3; rw [hX] at this; omega⟩)⟩
      · rw [if_neg g]
        refine At.blk rfl rfl rfl fun sx => ?_
        simp (decide := true) only [RR, ms_app, toList_some, toList_none, if_true, if_false, true_and, and_true, cond_true, sm0, sm1, sm1l, sm2, lc_lt, lc_gt, lc_eq, Int.toNat_natCast, Int.reduceToNat, Nat.reduceAdd, Nat.reduceEqDiff, Int.reduceLT, Int.reduceEq, Int.reduceNeg, Int.reduceAdd, Int.reduceMul, Nat.reduceMul, ms_n, ms_i, ms_l, ms_p, PM, w1 ()]
        refine ih (p + 1) (by omega) (by omega) (fun j hj => ?_)
        by_cases e : j = p
        · rw [e, hX]; omega
        · exact hq j (by omega)
  exact loop C.1 0 rfl (by omega) (fun j hj => absurd hj (by omega))
theorem m_rest {a : Int} (hF : Fix σ) (hW : Wrl σ C w l) (h53 : σ 146 53 = 0) (hK : ∀ σ' v, Fr mrL mrT σ σ' → rstR C w a v → K (some (.inl v)) σ') : Mt (d + 12) 218 [.inr (.inr 146), .inl a] σ K := by
  refine Mt.go (lv := [some (.inr (.inr 146)), some (.inl a), none, none]) rfl rfl rfl ?_
  obtain ⟨hC, hcx, hcm, hw, hsx, hsm, hkx, hkm, hkv, h9⟩ := hW
  have n7 := hC.1
  have h7 := pwN7 C.1 n7
  have em : σ 182 0 = w.1 := hsm.1
  obtain ⟨r1, -⟩ := one_shl C.1 (by omega)
  refine At.blk rfl rfl rfl fun sx => ?_
  simp (decide := true) only [RR, ms_app, toList_some, toList_none, if_true, if_false, true_and, and_true, cond_true, sm0, sm1, sm1l, sm2, lc_lt, lc_gt, lc_eq, Int.toNat_natCast, Int.reduceToNat, Nat.reduceAdd, Nat.reduceEqDiff, Int.reduceLT, Int.reduceEq, Int.reduceNeg, Int.reduceAdd, Int.reduceMul, Nat.reduceMul, ms_n, ms_i, ms_l, ms_p, PM]
  refine cal_of rfl (m_isAhead hF (by omega) (by decide) (by decide) (fun h1 => ?_) (fun h1 => ?_))
  · rw [em] at h1
    obtain ⟨n, rfl⟩ := Int.eq_ofNat_of_zero_le (show 0 ≤ a by omega)
    have hKb : ∀ σ' v, Fr mrL mrT σ σ' → Bst (2 ^ C.1) C.1 (rsQ C w n) v → K (some (.inl v)) σ' := fun σ' v f hb => hK σ' v f ⟨fun _ => by rw [Int.toNat_natCast]; exact hb, fun h => absurd (by omega) h⟩
    simp (decide := true) only [RR, ms_app, toList_some, toList_none, if_true, if_false, true_and, and_true, cond_true, sm0, sm1, sm1l, sm2, lc_lt, lc_gt, lc_eq, Int.toNat_natCast, Int.reduceToNat, Nat.reduceAdd, Nat.reduceEqDiff, Int.reduceLT, Int.reduceEq, Int.reduceNeg, Int.reduceAdd, Int.reduceMul, Nat.reduceMul, ms_n, ms_i, ms_l, ms_p, PM]
    refine At.blk rfl rfl rfl fun sx => ?_
    simp (decide := true) only [RR, ms_app, toList_some, toList_none, if_true, if_false, true_and, and_true, cond_true, sm0, sm1, sm1l, sm2, lc_lt, lc_gt, lc_eq, Int.toNat_natCast, Int.reduceToNat, Nat.reduceAdd, Nat.reduceEqDiff, Int.reduceLT, Int.reduceEq, Int.reduceNeg, Int.reduceAdd, Int.reduceMul, Nat.reduceMul, ms_n, ms_i, ms_l, ms_p, PM]
    refine cal_of rfl (m_laysThen hF hC hcm hw hsm h53 (by omega) (by omega) (fun σ1 f1 A => ?_))
    have hF1 := hF.fr f1 rfl
    have c1 : CtM σ1 C := hcm.cg (f1 173 2 rfl) (f1 178 2 rfl) (f1.row 176 rfl) (f1.row 179 rfl) (f1.row 180 rfl) (f1.row 181 rfl)
    simp (decide := true) only [RR, ms_app, toList_some, toList_none, if_true, if_false, true_and, and_true, cond_true, sm0, sm1, sm1l, sm2, lc_lt, lc_gt, lc_eq, Int.toNat_natCast, Int.reduceToNat, Nat.reduceAdd, Nat.reduceEqDiff, Int.reduceLT, Int.reduceEq, Int.reduceNeg, Int.reduceAdd, Int.reduceMul, Nat.reduceMul, ms_n, ms_i, ms_l, ms_p, PM]
    have loop : ∀ m s : Nat, 2 ^ C.1 - s = m → s ≤ 2 ^ C.1 → ∀ (v : Int), Bst s C.1 (rsQ C w n) v → At (d + 11) 218 2 [some (.inr (.inr 146)), some (.inl (n : Int)), some (.inl v), some (.inl (s : Int))] [] σ1 K := by
      intro m
      induction m with
      | zero =>
        intro s hs hs2 v hb
        obtain rfl : s = 2 ^ C.1 := by omega
        refine At.blk rfl rfl rfl fun sx => ?_
        simp (decide := true) only [RR, ms_app, toList_some, toList_none, if_true, if_false, true_and, and_true, cond_true, sm0, sm1, sm1l, sm2, lc_lt, lc_gt, lc_eq, Int.toNat_natCast, Int.reduceToNat, Nat.reduceAdd, Nat.reduceEqDiff, Int.reduceLT, Int.reduceEq, Int.reduceNeg, Int.reduceAdd, Int.reduceMul, Nat.reduceMul, ms_n, ms_i, ms_l, ms_p, PM]
        refine cal_of rfl (m_partMany hF1 ?_)
        simp (decide := true) only [RR, ms_app, toList_some, toList_none, if_true, if_false, true_and, and_true, cond_true, sm0, sm1, sm1l, sm2, lc_lt, lc_gt, lc_eq, Int.toNat_natCast, Int.reduceToNat, Nat.reduceAdd, Nat.reduceEqDiff, Int.reduceLT, Int.reduceEq, Int.reduceNeg, Int.reduceAdd, Int.reduceMul, Nat.reduceMul, ms_n, ms_i, ms_l, ms_p, PM, c1.1, r1]
        rw [if_neg (by omega)]
        refine At.blk rfl rfl rfl fun sx => ?_
        simp (decide := true) only [RR, ms_app, toList_some, toList_none, if_true, if_false, true_and, and_true, cond_true, sm0, sm1, sm1l, sm2, lc_lt, lc_gt, lc_eq, Int.toNat_natCast, Int.reduceToNat, Nat.reduceAdd, Nat.reduceEqDiff, Int.reduceLT, Int.reduceEq, Int.reduceNeg, Int.reduceAdd, Int.reduceMul, Nat.reduceMul, ms_n, ms_i, ms_l, ms_p, PM]
        exact hKb σ1 v f1 hb
      | succ m ih =>
        intro s hs hs2 v hb
        have hs3 : s < 2 ^ C.1 := by omega
        have w1 : Unit → w32 ((s : Int) + 1) = ((s + 1 : Nat) : Int) := fun _ => by rw [w32_small (by omega) (by omega)]; omega
        have four : ∀ v : Int, Bst (s + 1) C.1 (rsQ C w n) v → At (d + 11) 218 4 [some (.inr (.inr 146)), some (.inl (n : Int)), some (.inl v), some (.inl (s : Int))] [] σ1 K := by
          intro v hb
          refine At.blk rfl rfl rfl fun sx => ?_
          simp (decide := true) only [RR, ms_app, toList_some, toList_none, if_true, if_false, true_and, and_true, cond_true, sm0, sm1, sm1l, sm2, lc_lt, lc_gt, lc_eq, Int.toNat_natCast, Int.reduceToNat, Nat.reduceAdd, Nat.reduceEqDiff, Int.reduceLT, Int.reduceEq, Int.reduceNeg, Int.reduceAdd, Int.reduceMul, Nat.reduceMul, ms_n, ms_i, ms_l, ms_p, PM, w1 ()]
          exact ih (s + 1) (by omega) (by omega) v hb
        have three : (v = -1 ∨ ∃ r : Nat, v = (r : Int) ∧ bcF (s : Int) < bcF (r : Int)) → At (d + 11) 218 3 [some (.inr (.inr 146)), some (.inl (n : Int)), some (.inl v), some (.inl (s : Int))] [] σ1 K := by
          intro g
          refine At.blk rfl rfl rfl fun sx => ?_
          simp (decide := true) only [RR, ms_app, toList_some, toList_none, if_true, if_false, true_and, and_true, cond_true, sm0, sm1, sm1l, sm2, lc_lt, lc_gt, lc_eq, Int.toNat_natCast, Int.reduceToNat, Nat.reduceAdd, Nat.reduceEqDiff, Int.reduceLT, Int.reduceEq, Int.reduceNeg, Int.reduceAdd, Int.reduceMul, Nat.reduceMul, ms_n, ms_i, ms_l, ms_p, PM]
          refine cal_of rfl (m_isRest hF1 hC hs3 c1 A (fun u hu => ?_))
          rcases hu with ⟨rfl, hu⟩ | ⟨rfl, hu⟩
          · simp (decide := true) only [RR, ms_app, toList_some, toList_none, if_true, if_false, true_and, and_true, cond_true, sm0, sm1, sm1l, sm2, lc_lt, lc_gt, lc_eq, Int.toNat_natCast, Int.reduceToNat, Nat.reduceAdd, Nat.reduceEqDiff, Int.reduceLT, Int.reduceEq, Int.reduceNeg, Int.reduceAdd, Int.reduceMul, Nat.reduceMul, ms_n, ms_i, ms_l, ms_p, PM]
            exact four _ (hb.take (bc_le C.1 (by omega) s hs3).2 hu g)
          · simp (decide := true) only [RR, ms_app, toList_some, toList_none, if_true, if_false, true_and, and_true, cond_true, sm0, sm1, sm1l, sm2, lc_lt, lc_gt, lc_eq, Int.toNat_natCast, Int.reduceToNat, Nat.reduceAdd, Nat.reduceEqDiff, Int.reduceLT, Int.reduceEq, Int.reduceNeg, Int.reduceAdd, Int.reduceMul, Nat.reduceMul, ms_n, ms_i, ms_l, ms_p, PM]
            exact four _ (hb.skip (fun _ h => absurd h hu))
        refine At.blk rfl rfl rfl fun sx => ?_
        simp (decide := true) only [RR, ms_app, toList_some, toList_none, if_true, if_false, true_and, and_true, cond_true, sm0, sm1, sm1l, sm2, lc_lt, lc_gt, lc_eq, Int.toNat_natCast, Int.reduceToNat, Nat.reduceAdd, Nat.reduceEqDiff, Int.reduceLT, Int.reduceEq, Int.reduceNeg, Int.reduceAdd, Int.reduceMul, Nat.reduceMul, ms_n, ms_i, ms_l, ms_p, PM]
        refine cal_of rfl (m_partMany hF1 ?_)
        simp (decide := true) only [RR, ms_app, toList_some, toList_none, if_true, if_false, true_and, and_true, cond_true, sm0, sm1, sm1l, sm2, lc_lt, lc_gt, lc_eq, Int.toNat_natCast, Int.reduceToNat, Nat.reduceAdd, Nat.reduceEqDiff, Int.reduceLT, Int.reduceEq, Int.reduceNeg, Int.reduceAdd, Int.reduceMul, Nat.reduceMul, ms_n, ms_i, ms_l, ms_p, PM, c1.1, r1]
        rw [if_pos (by omega)]
        by_cases g3 : v = -1
        · rw [if_pos g3]
          exact three (Or.inl g3)
        · rw [if_neg g3]
          have hr : ∃ r : Nat, r < s ∧ v = (r : Int) := by
            rcases hb with ⟨hb, _⟩ | ⟨r, r2, r3, _⟩
            · exact absurd hb g3
            · exact ⟨r, r2, r3⟩
          obtain ⟨r, r2, r3⟩ := hr
          refine cal_of rfl (m_bits (by omega) ?_)
          simp (decide := true) only [RR, ms_app, toList_some, toList_none, if_true, if_false, true_and, and_true, cond_true, sm0, sm1, sm1l, sm2, lc_lt, lc_gt, lc_eq, Int.toNat_natCast, Int.reduceToNat, Nat.reduceAdd, Nat.reduceEqDiff, Int.reduceLT, Int.reduceEq, Int.reduceNeg, Int.reduceAdd, Int.reduceMul, Nat.reduceMul, ms_n, ms_i, ms_l, ms_p, PM]
          subst r3
          refine cal_of rfl (m_bits (by omega) ?_)
          simp (decide := true) only [RR, ms_app, toList_some, toList_none, if_true, if_false, true_and, and_true, cond_true, sm0, sm1, sm1l, sm2, lc_lt, lc_gt, lc_eq, Int.toNat_natCast, Int.reduceToNat, Nat.reduceAdd, Nat.reduceEqDiff, Int.reduceLT, Int.reduceEq, Int.reduceNeg, Int.reduceAdd, Int.reduceMul, Nat.reduceMul, ms_n, ms_i, ms_l, ms_p, PM]
          by_cases g4 : bcF (s : Int) < bcF (r : Int)
          · rw [if_pos g4]
            exact three (Or.inr ⟨r, rfl, g4⟩)
          · rw [if_neg g4]
            exact four _ (hb.skip (fun _ _ => ⟨r, rfl, by omega⟩))
    exact loop (2 ^ C.1) 0 rfl (Nat.zero_le _) (-1) (Or.inl ⟨rfl, fun s hs => absurd hs (by omega)⟩)
  · rw [em] at h1
    simp (decide := true) only [RR, ms_app, toList_some, toList_none, if_true, if_false, true_and, and_true, cond_true, sm0, sm1, sm1l, sm2, lc_lt, lc_gt, lc_eq, Int.toNat_natCast, Int.reduceToNat, Nat.reduceAdd, Nat.reduceEqDiff, Int.reduceLT, Int.reduceEq, Int.reduceNeg, Int.reduceAdd, Int.reduceMul, Nat.reduceMul, ms_n, ms_i, ms_l, ms_p, PM]
    exact hK σ _ Fr.same ⟨fun h2 => absurd h2 h1, fun _ => rfl⟩
end
theorem p_rest {σ : mM} (h : Inv σ) (a : Int) (_ : inR a) : PairI Inv 121 218 [.inl a] σ := by
  obtain ⟨C, w, l, hW⟩ := h.wrl
  exact ro_pair2 (R := rstR C w a) h hW rstR_uniq (x_rest h.1 hW (fun σ' v f hv => ⟨v, rfl, hv, f.mono rfl⟩)) (fun σ1 h1 hW1 _ => m_rest h1.1 hW1 h1.th0 (fun σ' v f hv => ⟨v, rfl, hv, f.mono rfl⟩))
