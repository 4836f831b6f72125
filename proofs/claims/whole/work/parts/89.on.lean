/-! on -/
def imgG (t : Nat → Int) (N : Int) (n : Nat) : Prop := N = 3 + 3 * (n : Int) ∧ t (2 + 3 * n) = chkN t (2 + 3 * n) ∧ 256 * t 0 + t 1 ≤ 999 ∧ ∀ p, p < n → t (2 + 3 * p) ≤ 20 ∧ t (3 + 3 * p) ≤ 3 ∧ (t (4 + 3 * p) ≤ 20 ∨ 254 ≤ t (4 + 3 * p))
theorem imgG_cg {t t' : Nat → Int} {N : Int} {n : Nat} (h : ∀ k : Nat, (k : Int) < N → t k = t' k) : imgG t N n ↔ imgG t' N n := by
  have key : ∀ {t t' : Nat → Int}, (∀ k : Nat, (k : Int) < N → t k = t' k) → imgG t N n → imgG t' N n := by
    intro t t' h ⟨g1, g2, g3, g4⟩
    refine ⟨g1, ?_, ?_, fun p hp => ?_⟩
    · rw [← h _ (by omega), g2]
      exact chkN_cg _ (fun k hk => h k (by omega))
    · rw [← h 0 (by omega), ← h 1 (by omega)]; exact g3
    · rw [← h _ (by omega), ← h _ (by omega), ← h _ (by omega)]; exact g4 p hp
  exact ⟨key h, key (fun k hk => (h k hk).symm)⟩
def imgW (t : Nat → Int) : Sk := (256 * t 0 + t 1, fun p => t (2 + 3 * p), fun p => t (3 + 3 * p) % 2, fun p => t (3 + 3 * p) / 2, fun p => if t (4 + 3 * p) ≤ 20 then t (4 + 3 * p) else t (4 + 3 * p) - 256)
theorem bitsN_orv {f : Nat → Bool} {k : Nat} {v : Int} (hk : k < 30) (hv : v = if f k = true then 1 else 0) : i_or ((bitsN f k : Nat) : Int) (i_shl v (k : Int)) = ((bitsN f (k + 1) : Nat) : Int) := by
  by_cases hf : f k = true
  · rw [if_pos hf] at hv
    rw [hv]; exact bitsN_or hk hf
  · rw [if_neg hf] at hv
    have h1 := bitsN_lt f k
    have h2 : (2 : Nat) ^ k ≤ 2 ^ 29 := Nat.pow_le_pow_right (by decide) (by omega)
    have e := i_shl_nat (a := 0) (k := k) (by omega) (by omega)
    rw [Nat.zero_mul] at e
    rw [hv, show (0 : Int) = ((0 : Nat) : Int) from rfl, e, i_or_nat (by omega) (by omega), Nat.or_zero, bitsN_no (by simpa using hf)]
section
variable {d : Nat} {σ σ0 : mM} {K : Option mV → mM → Prop} {C : Ct} {w : Sk} {l : Kp}
theorem x_tapeIsImage (hF : Fix σ) (hC : CtV C) (hn : σ 3 4 = (C.1 : Int)) (hl : 0 ≤ σ 1 1 ∧ σ 1 1 ≤ 1600) (hb : ∀ k : Nat, (k : Int) < σ 1 1 → 0 ≤ σ 2 k ∧ σ 2 k ≤ 255) (h1 : imgG (σ 2) (σ 1 1) C.1 → K (some (.inl 1)) σ) (h0 : ¬imgG (σ 2) (σ 1 1) C.1 → K (some (.inl 0)) σ) : Mt (d + 2) 147 [.inr (.inr 0)] σ K := by
  refine Mt.go (lv := [some (.inr (.inr 0)), none, none, none]) rfl rfl rfl ?_
  have n7 := hC.1
  have i1 : Unit → w32 (3 * (C.1 : Int)) = ((3 * C.1 : Nat) : Int) := fun _ => by rw [w32_small (by omega) (by omega)]; omega
  have i2 : Unit → w32 (2 + ((3 * C.1 : Nat) : Int)) = ((2 + 3 * C.1 : Nat) : Int) := fun _ => by rw [w32_small (by omega) (by omega)]; omega
  have i3 : Unit → w32 (((2 + 3 * C.1 : Nat) : Int) + 1) = ((3 + 3 * C.1 : Nat) : Int) := fun _ => by rw [w32_small (by omega) (by omega)]; omega
  have one : ¬imgG (σ 2) (σ 1 1) C.1 → At (d + 1) 147 1 [some (.inr (.inr 0)), some (.inl ((2 + 3 * C.1 : Nat) : Int)), none, none] [] σ K := by
    intro h
    refine At.blk rfl rfl rfl fun sx => ?_
    simp (decide := true) only [RR, ms_app, toList_some, toList_none, if_true, if_false, true_and, and_true, cond_true, sm0, sm1, sm1l, sm2, lc_lt, lc_gt, lc_eq, Int.toNat_natCast, Int.reduceToNat, Nat.reduceAdd, Nat.reduceEqDiff, Int.reduceLT, Int.reduceEq, Int.reduceNeg, Int.reduceAdd, Int.reduceMul, Nat.reduceMul, ms_n, ms_i, ms_l, ms_p, PX]
    exact h0 h
  refine At.blk rfl rfl rfl fun sx => ?_
  simp (decide := true) only [RR, ms_app, toList_some, toList_none, if_true, if_false, true_and, and_true, cond_true, sm0, sm1, sm1l, sm2, lc_lt, lc_gt, lc_eq, Int.toNat_natCast, Int.reduceToNat, Nat.reduceAdd, Nat.reduceEqDiff, Int.reduceLT, Int.reduceEq, Int.reduceNeg, Int.reduceAdd, Int.reduceMul, Nat.reduceMul, ms_n, ms_i, ms_l, ms_p, PX, fxX hF, hn, i1 (), i2 (), i3 ()]
  by_cases e1 : σ 1 1 = ((3 + 3 * C.1 : Nat) : Int)
  · rw [if_pos e1]
    refine ⟨⟨by omega, by omega⟩, ?_⟩
    refine cal_of rfl (x_checkOf2 (by omega) (fun k hk => hb k (by omega)) ?_)
    simp (decide := true) only [RR, ms_app, toList_some, toList_none, if_true, if_false, true_and, and_true, cond_true, sm0, sm1, sm1l, sm2, lc_lt, lc_gt, lc_eq, Int.toNat_natCast, Int.reduceToNat, Nat.reduceAdd, Nat.reduceEqDiff, Int.reduceLT, Int.reduceEq, Int.reduceNeg, Int.reduceAdd, Int.reduceMul, Nat.reduceMul, ms_n, ms_i, ms_l, ms_p, PX]
    by_cases e2 : σ 2 (2 + 3 * C.1) = chkN (σ 2) (2 + 3 * C.1)
    · rw [if_pos e2]
      refine At.blk rfl rfl rfl fun sx => ?_
      simp (decide := true) only [RR, ms_app, toList_some, toList_none, if_true, if_false, true_and, and_true, cond_true, sm0, sm1, sm1l, sm2, lc_lt, lc_gt, lc_eq, Int.toNat_natCast, Int.reduceToNat, Nat.reduceAdd, Nat.reduceEqDiff, Int.reduceLT, Int.reduceEq, Int.reduceNeg, Int.reduceAdd, Int.reduceMul, Nat.reduceMul, ms_n, ms_i, ms_l, ms_p, PX]
      have loop : ∀ m p : Nat, C.1 - p = m → p ≤ C.1 → ∀ o3 : Option mV, (∀ j, j < p → σ 2 (2 + 3 * j) ≤ 20 ∧ σ 2 (3 + 3 * j) ≤ 3 ∧ (σ 2 (4 + 3 * j) ≤ 20 ∨ 254 ≤ σ 2 (4 + 3 * j))) → At (d + 1) 147 3 [some (.inr (.inr 0)), some (.inl ((2 + 3 * C.1 : Nat) : Int)), some (.inl ((2 + 3 * p : Nat) : Int)), o3] [] σ K := by
        intro m
        induction m with
        | zero =>
          intro p hp hp2 o3 hq
          obtain rfl : p = C.1 := by omega
          have t0 := hb 0 (by omega)
          have t1 := hb 1 (by omega)
          have j1 : Unit → w32 (w32 (σ 2 0 * 256) + σ 2 1) = 256 * σ 2 0 + σ 2 1 := fun _ => by rw [w32_small (x := σ 2 0 * 256) (by omega) (by omega), w32_small (by omega) (by omega)]; omega
          refine At.blk rfl rfl rfl fun sx => ?_
          simp (decide := true) only [RR, ms_app, toList_some, toList_none, if_true, if_false, true_and, and_true, cond_true, sm0, sm1, sm1l, sm2, lc_lt, lc_gt, lc_eq, Int.toNat_natCast, Int.reduceToNat, Nat.reduceAdd, Nat.reduceEqDiff, Int.reduceLT, Int.reduceEq, Int.reduceNeg, Int.reduceAdd, Int.reduceMul, Nat.reduceMul, ms_n, ms_i, ms_l, ms_p, PX]
          rw [if_neg (by omega)]
          refine At.blk rfl rfl rfl fun sx => ?_
          simp (decide := true) only [RR, ms_app, toList_some, toList_none, if_true, if_false, true_and, and_true, cond_true, sm0, sm1, sm1l, sm2, lc_lt, lc_gt, lc_eq, Int.toNat_natCast, Int.reduceToNat, Nat.reduceAdd, Nat.reduceEqDiff, Int.reduceLT, Int.reduceEq, Int.reduceNeg, Int.reduceAdd, Int.reduceMul, Nat.reduceMul, ms_n, ms_i, ms_l, ms_p, PX, fxX hF, j1 ()]
          by_cases e3 : 999 < 256 * σ 2 0 + σ 2 1
          · rw [if_pos e3]
            refine At.blk rfl rfl rfl fun sx => ?_
            simp (decide := true) only [RR, ms_app, toList_some, toList_none, if_true, if_false, true_and, and_true, cond_true, sm0, sm1, sm1l, sm2, lc_lt, lc_gt, lc_eq, Int.toNat_natCast, Int.reduceToNat, Nat.reduceAdd, Nat.reduceEqDiff, Int.reduceLT, Int.reduceEq, Int.reduceNeg, Int.reduceAdd, Int.reduceMul, Nat.reduceMul, ms_n, ms_i, ms_l, ms_p, PX]
            refine At.blk rfl rfl rfl fun sx => ?_
            simp (decide := true) only [RR, ms_app, toList_some, toList_none, if_true, if_false, true_and, and_true, cond_true, sm0, sm1, sm1l, sm2, lc_lt, lc_gt, lc_eq, Int.toNat_natCast, Int.reduceToNat, Nat.reduceAdd, Nat.reduceEqDiff, Int.reduceLT, Int.reduceEq, Int.reduceNeg, Int.reduceAdd, Int.reduceMul, Nat.reduceMul, ms_n, ms_i, ms_l, ms_p, PX]
            exact h0 (fun h => by have := h.2.2.1; omega)
          · rw [if_neg e3]
            refine At.blk rfl rfl rfl fun sx => ?_
            simp (decide := true) only [RR, ms_app, toList_some, toList_none, if_true, if_false, true_and, and_true, cond_true, sm0, sm1, sm1l, sm2, lc_lt, lc_gt, lc_eq, Int.toNat_natCast, Int.reduceToNat, Nat.reduceAdd, Nat.reduceEqDiff, Int.reduceLT, Int.reduceEq, Int.reduceNeg, Int.reduceAdd, Int.reduceMul, Nat.reduceMul, ms_n, ms_i, ms_l, ms_p, PX]
            exact h1 ⟨by omega, e2, by omega, hq⟩
        | succ m ih =>
          intro p hp hp2 o3 hq
          have hp3 : p < C.1 := by omega
          have ta := hb (2 + 3 * p) (by omega)
          have tb := hb (3 + 3 * p) (by omega)
          have tc := hb (4 + 3 * p) (by omega)
          have j1 : Unit → w32 (((2 + 3 * p : Nat) : Int) + 1) = ((3 + 3 * p : Nat) : Int) := fun _ => by rw [w32_small (by omega) (by omega)]; omega
          have j2 : Unit → w32 (((2 + 3 * p : Nat) : Int) + 2) = ((4 + 3 * p : Nat) : Int) := fun _ => by rw [w32_small (by omega) (by omega)]; omega
          have j3 : Unit → w32 (((2 + 3 * p : Nat) : Int) + 3) = ((2 + 3 * (p + 1) : Nat) : Int) := fun _ => by rw [w32_small (by omega) (by omega)]; omega
          have six : (σ 2 (2 + 3 * p) ≤ 20 ∧ σ 2 (3 + 3 * p) ≤ 3 ∧ (σ 2 (4 + 3 * p) ≤ 20 ∨ 254 ≤ σ 2 (4 + 3 * p))) → At (d + 1) 147 6 [some (.inr (.inr 0)), some (.inl ((2 + 3 * C.1 : Nat) : Int)), some (.inl ((2 + 3 * p : Nat) : Int)), some (.inl (σ 2 (4 + 3 * p)))] [] σ K := by
            intro h
            refine At.blk rfl rfl rfl fun sx => ?_
            simp (decide := true) only [RR, ms_app, toList_some, toList_none, if_true, if_false, true_and, and_true, cond_true, sm0, sm1, sm1l, sm2, lc_lt, lc_gt, lc_eq, Int.toNat_natCast, Int.reduceToNat, Nat.reduceAdd, Nat.reduceEqDiff, Int.reduceLT, Int.reduceEq, Int.reduceNeg, Int.reduceAdd, Int.reduceMul, Nat.reduceMul, ms_n, ms_i, ms_l, ms_p, PX, j3 ()]
            refine ih (p + 1) (by omega) (by omega) _ (fun j hj => ?_)
            by_cases e : j = p
            · rw [e]; exact h
            · exact hq j (by omega)
          have four : ¬(σ 2 (2 + 3 * p) ≤ 20 ∧ σ 2 (3 + 3 * p) ≤ 3) → At (d + 1) 147 4 [some (.inr (.inr 0)), some (.inl ((2 + 3 * C.1 : Nat) : Int)), some (.inl ((2 + 3 * p : Nat) : Int)), some (.inl (σ 2 (4 + 3 * p)))] [] σ K := by
            intro h
            refine At.blk rfl rfl rfl fun sx => ?_
            simp (decide := true) only [RR, ms_app, toList_some, toList_none, if_true, if_false, true_and, and_true, cond_true, sm0, sm1, sm1l, sm2, lc_lt, lc_gt, lc_eq, Int.toNat_natCast, Int.reduceToNat, Nat.reduceAdd, Nat.reduceEqDiff, Int.reduceLT, Int.reduceEq, Int.reduceNeg, Int.reduceAdd, Int.reduceMul, Nat.reduceMul, ms_n, ms_i, ms_l, ms_p, PX]
            exact h0 (fun g => by have := g.2.2.2 p hp3; omega)
          refine At.blk rfl rfl rfl fun sx => ?_
          simp (decide := true) only [RR, ms_app, toList_some, toList_none, if_true, if_false, true_and, and_true, cond_true, sm0, sm1, sm1l, sm2, lc_lt, lc_gt, lc_eq, Int.toNat_natCast, Int.reduceToNat, Nat.reduceAdd, Nat.reduceEqDiff, Int.reduceLT, Int.reduceEq, Int.reduceNeg, Int.reduceAdd, Int.reduceMul, Nat.reduceMul, ms_n, ms_i, ms_l, ms_p, PX, fxX hF, j1 (), j2 ()]
          rw [if_pos (by omega)]
          refine ⟨⟨by omega, by omega⟩, ⟨by omega, by omega⟩, ?_⟩
          by_cases c1 : 20 < σ 2 (2 + 3 * p)
          · rw [if_pos c1]; exact four (by omega)
          · rw [if_neg c1]
            refine ⟨⟨by omega, by omega⟩, ?_⟩
            by_cases c2 : 3 < σ 2 (3 + 3 * p)
            · rw [if_pos c2]; exact four (by omega)
            · rw [if_neg c2]
              refine At.blk rfl rfl rfl fun sx => ?_
              simp (decide := true) only [RR, ms_app, toList_some, toList_none, if_true, if_false, true_and, and_true, cond_true, sm0, sm1, sm1l, sm2, lc_lt, lc_gt, lc_eq, Int.toNat_natCast, Int.reduceToNat, Nat.reduceAdd, Nat.reduceEqDiff, Int.reduceLT, Int.reduceEq, Int.reduceNeg, Int.reduceAdd, Int.reduceMul, Nat.reduceMul, ms_n, ms_i, ms_l, ms_p, PX]
              by_cases c3 : 20 < σ 2 (4 + 3 * p)
              · rw [if_pos c3]
                by_cases c4 : σ 2 (4 + 3 * p) = 254
                · rw [if_pos c4]; exact six (by omega)
                · rw [if_neg c4]
                  by_cases c5 : σ 2 (4 + 3 * p) = 255
                  · rw [if_pos c5]; exact six (by omega)
                  · rw [if_neg c5]
                    have fin := h0 (fun g => by have := g.2.2.2 p hp3; omega)
                    first | exact fin | exact ⟨Or.inl rfl, fin⟩
              · rw [if_neg c3]; exact six (by omega)
      exact loop C.1 0 rfl (by omega) none (fun j hj => absurd hj (by omega))
    · rw [if_neg e2]
      exact one (fun h => e2 h.2.1)
  · rw [if_neg e1]
    exact one (fun h => e1 (by have := h.1; omega))
theorem x_takeImage (hF : Fix σ) (hC : CtV C) (hn : σ 3 4 = (C.1 : Int)) (hb : ∀ k : Nat, k < 3 + 3 * C.1 → 0 ≤ σ 2 k ∧ σ 2 k ≤ 255) (hg : imgG (σ 2) (3 + 3 * (C.1 : Int)) C.1) (hK : ∀ σ', Fr [29, 30] [(28, 2), (28, 3), (28, 4), (39, 1), (41, 3)] σ σ' → SkX σ' 28 C (imgW (σ 2)) → σ' 39 1 = 0 → σ' 41 3 = 0 → K none σ') : Mt (d + 1) 148 [.inr (.inr 0)] σ K := by
  refine Mt.go (lv := [some (.inr (.inr 0)), none, none]) rfl rfl rfl ?_
  have n7 := hC.1
  obtain ⟨-, -, g3, g4⟩ := hg
  have t0 := hb 0 (by omega)
  have t1 := hb 1 (by omega)
  have j0 : Unit → w32 (w32 (σ 2 0 * 256) + σ 2 1) = 256 * σ 2 0 + σ 2 1 := fun _ => by rw [w32_small (x := σ 2 0 * 256) (by omega) (by omega), w32_small (by omega) (by omega)]; omega
  refine At.blk rfl rfl rfl fun sx => ?_
  simp (decide := true) only [RR, ms_app, toList_some, toList_none, if_true, if_false, true_and, and_true, cond_true, sm0, sm1, sm1l, sm2, lc_lt, lc_gt, lc_eq, Int.toNat_natCast, Int.reduceToNat, Nat.reduceAdd, Nat.reduceEqDiff, Int.reduceLT, Int.reduceEq, Int.reduceNeg, Int.reduceAdd, Int.reduceMul, Nat.reduceMul, ms_n, ms_i, ms_l, ms_p, PX, fxX hF, j0 ()]
  have loop : ∀ m k : Nat, C.1 - k = m → k ≤ C.1 → ∀ (σ' : mM) (o2 : Option mV), Fr [29, 30] [(28, 2), (28, 3), (28, 4)] σ σ' → σ' 28 2 = 256 * σ 2 0 + σ 2 1 → σ' 28 3 = ((bitsN (fun j => decide (σ 2 (3 + 3 * j) % 2 = 1)) k : Nat) : Int) → σ' 28 4 = ((bitsN (fun j => decide (σ 2 (3 + 3 * j) / 2 = 1)) k : Nat) : Int) → (∀ j, j < k → σ' 29 j = σ 2 (2 + 3 * j) ∧ σ' 30 j = σ 2 (4 + 3 * j)) → At d 148 1 [some (.inr (.inr 0)), some (.inl (k : Int)), o2] [] σ' K := by
    intro m
    induction m with
    | zero =>
      intro k hk hk2 σ' o2 fr e2 e3 e4 hq
      obtain rfl : k = C.1 := by omega
      have hF' := hF.fr fr rfl
      have en : σ' 3 4 = (C.1 : Int) := (fr 3 4 rfl).trans hn
      refine At.blk rfl rfl rfl fun sx => ?_
      simp (decide := true) only [RR, ms_app, toList_some, toList_none, if_true, if_false, true_and, and_true, cond_true, sm0, sm1, sm1l, sm2, lc_lt, lc_gt, lc_eq, Int.toNat_natCast, Int.reduceToNat, Nat.reduceAdd, Nat.reduceEqDiff, Int.reduceLT, Int.reduceEq, Int.reduceNeg, Int.reduceAdd, Int.reduceMul, Nat.reduceMul, ms_n, ms_i, ms_l, ms_p, PX, fxX hF', en]
      rw [if_neg (by omega)]
      refine At.blk rfl rfl rfl fun sx => ?_
      simp (decide := true) only [RR, ms_app, toList_some, toList_none, if_true, if_false, true_and, and_true, cond_true, sm0, sm1, sm1l, sm2, lc_lt, lc_gt, lc_eq, Int.toNat_natCast, Int.reduceToNat, Nat.reduceAdd, Nat.reduceEqDiff, Int.reduceLT, Int.reduceEq, Int.reduceNeg, Int.reduceAdd, Int.reduceMul, Nat.reduceMul, ms_n, ms_i, ms_l, ms_p, PX, fxX hF']
      refine hK _ (((fr.mono rfl).set rfl).set rfl) ⟨?_, ?_, ?_, fun p hp => ?_⟩ rfl rfl
      · exact e2
      · show 0 ≤ σ' 28 3 ∧ σ' 28 3 < 2 ^ C.1
        have := bitsN_lt (fun j => decide (σ 2 (3 + 3 * j) % 2 = 1)) C.1
        rw [e3, ← pw_cast]; omega
      · show 0 ≤ σ' 28 4 ∧ σ' 28 4 < 2 ^ C.1
        have := bitsN_lt (fun j => decide (σ 2 (3 + 3 * j) / 2 = 1)) C.1
        rw [e4, ← pw_cast]; omega
      · obtain ⟨q1, q2⟩ := hq p hp
        obtain ⟨p1, p2, p3⟩ := g4 p hp
        have tb := hb (3 + 3 * p) (by omega)
        have tc := hb (4 + 3 * p) (by omega)
        refine ⟨q1, ?_, ?_, ?_⟩
        · show bit (σ' 28 3) p = σ 2 (3 + 3 * p) % 2
          rw [e3, bitsN_bit C.1 hp]
          by_cases c : σ 2 (3 + 3 * p) % 2 = 1
          · rw [if_pos (decide_eq_true c), c]
          · rw [if_neg (by rw [decide_eq_false c]; decide)]; omega
        · show bit (σ' 28 4) p = σ 2 (3 + 3 * p) / 2
          rw [e4, bitsN_bit C.1 hp]
          by_cases c : σ 2 (3 + 3 * p) / 2 = 1
          · rw [if_pos (decide_eq_true c), c]
          · rw [if_neg (by rw [decide_eq_false c]; decide)]; omega
        · show ActR (σ' 30 p) (if σ 2 (4 + 3 * p) ≤ 20 then σ 2 (4 + 3 * p) else σ 2 (4 + 3 * p) - 256)
          rw [q2]
          unfold ActR
          split <;> omega
    | succ m ih =>
      intro k hk hk2 σ' o2 fr e2 e3 e4 hq
      have hk3 : k < C.1 := by omega
      have hF' := hF.fr fr rfl
      have en : σ' 3 4 = (C.1 : Int) := (fr 3 4 rfl).trans hn
      have r2 : σ' 2 = σ 2 := fr.row 2 rfl
      obtain ⟨p1, p2, p3⟩ := g4 k hk3
      have ta := hb (2 + 3 * k) (by omega)
      have tb := hb (3 + 3 * k) (by omega)
      have j1 : Unit → w32 (3 * (k : Int)) = ((3 * k : Nat) : Int) := fun _ => by rw [w32_small (by omega) (by omega)]; omega
      have j2 : Unit → w32 (2 + ((3 * k : Nat) : Int)) = ((2 + 3 * k : Nat) : Int) := fun _ => by rw [w32_small (by omega) (by omega)]; omega
      have j3 : Unit → w32 (((2 + 3 * k : Nat) : Int) + 1) = ((3 + 3 * k : Nat) : Int) := fun _ => by rw [w32_small (by omega) (by omega)]; omega
      have j4 : Unit → w32 (((2 + 3 * k : Nat) : Int) + 2) = ((4 + 3 * k : Nat) : Int) := fun _ => by rw [w32_small (by omega) (by omega)]; omega
      have j5 : Unit → w32 ((k : Int) + 1) = ((k + 1 : Nat) : Int) := fun _ => by rw [w32_small (by omega) (by omega)]; omega
      have v1 : i_or ((bitsN (fun j => decide (σ 2 (3 + 3 * j) % 2 = 1)) k : Nat) : Int) (i_shl (i_and (σ 2 (3 + 3 * k)) 1) (k : Int)) = ((bitsN (fun j => decide (σ 2 (3 + 3 * j) % 2 = 1)) (k + 1) : Nat) : Int) := by
        refine bitsN_orv (by omega) ?_
        rw [i_and1]
        by_cases c : σ 2 (3 + 3 * k) % 2 = 1
        · rw [if_pos (decide_eq_true c), c]
        · rw [if_neg (by rw [decide_eq_false c]; decide)]; omega
      have v2 : i_or ((bitsN (fun j => decide (σ 2 (3 + 3 * j) / 2 = 1)) k : Nat) : Int) (i_shl (i_shr (σ 2 (3 + 3 * k)) 1) (k : Int)) = ((bitsN (fun j => decide (σ 2 (3 + 3 * j) / 2 = 1)) (k + 1) : Nat) : Int) := by
        refine bitsN_orv (by omega) ?_
        rw [i_shr1 (by omega) (by omega)]
        by_cases c : σ 2 (3 + 3 * k) / 2 = 1
        · rw [if_pos (decide_eq_true c), c]
        · rw [if_neg (by rw [decide_eq_false c]; decide)]; omega
      refine At.blk rfl rfl rfl fun sx => ?_
      simp (decide := true) only [RR, ms_app, toList_some, toList_none, if_true, if_false, true_and, and_true, cond_true, sm0, sm1, sm1l, sm2, lc_lt, lc_gt, lc_eq, Int.toNat_natCast, Int.reduceToNat, Nat.reduceAdd, Nat.reduceEqDiff, Int.reduceLT, Int.reduceEq, Int.reduceNeg, Int.reduceAdd, Int.reduceMul, Nat.reduceMul, ms_n, ms_i, ms_l, ms_p, PX, fxX hF', en, r2, j1 (), j2 (), j3 (), j4 (), e3, e4, v1, v2]
      rw [if_pos (by omega)]
      refine ⟨⟨by omega, by omega⟩, ⟨by omega, by omega⟩, ⟨by omega, by omega⟩, ⟨by omega, by omega⟩, ⟨by omega, by omega⟩, ⟨by omega, by omega⟩, ?_⟩
      rw [j5 ()]
      refine ih (k + 1) (by omega) (by omega) _ _ ((((fr.setr rfl).set rfl).set rfl).setr rfl) e2 rfl rfl (fun j hj => ?_)
      by_cases e : j = k
      · rw [e]
        exact ⟨by rw [ms_row (by decide), ms_row (by decide), ms_row (by decide), ms_app, if_pos rfl, if_pos rfl], by rw [ms_app, if_pos rfl, if_pos rfl]⟩
      · have := hq j (by omega)
        exact ⟨by rw [ms_row (by decide), ms_row (by decide), ms_row (by decide), ms_app, if_pos rfl, if_neg e]; exact this.1, by rw [ms_app, if_pos rfl, if_neg e]; exact this.2⟩
  exact loop C.1 0 rfl (by omega) _ none (((Fr.same.set rfl).set rfl).set rfl) rfl rfl rfl (fun j hj => absurd hj (by omega))
theorem m_isImage {N : Int} (hF : Fix σ) (hC : CtV C) (hn : σ 173 2 = (C.1 : Int)) (hl : 0 ≤ N ∧ N ≤ 1600) (hb : ∀ k : Nat, (k : Int) < N → 0 ≤ σ 147 k ∧ σ 147 k ≤ 255) (h1 : imgG (σ 147) N C.1 → K (some (.inl 1)) σ) (h0 : ¬imgG (σ 147) N C.1 → K (some (.inl 0)) σ) : Mt (d + 2) 270 [.inr (.inr 146), .inl N] σ K := by
  refine Mt.go (lv := [some (.inr (.inr 146)), some (.inl N), none, none]) rfl rfl rfl ?_
  have n7 := hC.1
  have i1 : Unit → w32 (3 * (C.1 : Int)) = ((3 * C.1 : Nat) : Int) := fun _ => by rw [w32_small (by omega) (by omega)]; omega
  have i2 : Unit → w32 (3 + ((3 * C.1 : Nat) : Int)) = ((3 + 3 * C.1 : Nat) : Int) := fun _ => by rw [w32_small (by omega) (by omega)]; omega
  have i3 : Unit → w32 (((3 + 3 * C.1 : Nat) : Int) - 1) = ((2 + 3 * C.1 : Nat) : Int) := fun _ => by rw [w32_small (by omega) (by omega)]; omega
  have one : ¬imgG (σ 147) N C.1 → At (d + 1) 270 1 [some (.inr (.inr 146)), some (.inl N), none, none] [] σ K := by
    intro h
    refine At.blk rfl rfl rfl fun sx => ?_
    simp (decide := true) only [RR, ms_app, toList_some, toList_none, if_true, if_false, true_and, and_true, cond_true, sm0, sm1, sm1l, sm2, lc_lt, lc_gt, lc_eq, Int.toNat_natCast, Int.reduceToNat, Nat.reduceAdd, Nat.reduceEqDiff, Int.reduceLT, Int.reduceEq, Int.reduceNeg, Int.reduceAdd, Int.reduceMul, Nat.reduceMul, ms_n, ms_i, ms_l, ms_p, PM]
    exact h0 h
  refine At.blk rfl rfl rfl fun sx => ?_
  simp (decide := true) only [RR, ms_app, toList_some, toList_none, if_true, if_false, true_and, and_true, cond_true, sm0, sm1, sm1l, sm2, lc_lt, lc_gt, lc_eq, Int.toNat_natCast, Int.reduceToNat, Nat.reduceAdd, Nat.reduceEqDiff, Int.reduceLT, Int.reduceEq, Int.reduceNeg, Int.reduceAdd, Int.reduceMul, Nat.reduceMul, ms_n, ms_i, ms_l, ms_p, PM]
  refine cal_of rfl (m_partMany hF ?_)
  simp (decide := true) only [RR, ms_app, toList_some, toList_none, if_true, if_false, true_and, and_true, cond_true, sm0, sm1, sm1l, sm2, lc_lt, lc_gt, lc_eq, Int.toNat_natCast, Int.reduceToNat, Nat.reduceAdd, Nat.reduceEqDiff, Int.reduceLT, Int.reduceEq, Int.reduceNeg, Int.reduceAdd, Int.reduceMul, Nat.reduceMul, ms_n, ms_i, ms_l, ms_p, PM, fxM hF, hn, i1 (), i2 ()]
  by_cases e1 : N = ((3 + 3 * C.1 : Nat) : Int)
  · rw [if_pos e1]
    subst e1
    simp (decide := true) only [RR, ms_app, toList_some, toList_none, if_true, if_false, true_and, and_true, cond_true, sm0, sm1, sm1l, sm2, lc_lt, lc_gt, lc_eq, Int.toNat_natCast, Int.reduceToNat, Nat.reduceAdd, Nat.reduceEqDiff, Int.reduceLT, Int.reduceEq, Int.reduceNeg, Int.reduceAdd, Int.reduceMul, Nat.reduceMul, ms_n, ms_i, ms_l, ms_p, PM, i3 ()]
    refine ⟨⟨by omega, by omega⟩, ?_⟩
    refine cal_of rfl (m_checked147 (by omega) (fun k hk => hb k (by omega)) ?_)
    have t0 := hb 0 (by omega)
    have t1 := hb 1 (by omega)
    have j1 : Unit → w32 (w32 (256 * σ 147 0) + σ 147 1) = 256 * σ 147 0 + σ 147 1 := fun _ => by rw [w32_small (x := 256 * σ 147 0) (by omega) (by omega), w32_small (by omega) (by omega)]
    simp (decide := true) only [RR, ms_app, toList_some, toList_none, if_true, if_false, true_and, and_true, cond_true, sm0, sm1, sm1l, sm2, lc_lt, lc_gt, lc_eq, Int.toNat_natCast, Int.reduceToNat, Nat.reduceAdd, Nat.reduceEqDiff, Int.reduceLT, Int.reduceEq, Int.reduceNeg, Int.reduceAdd, Int.reduceMul, Nat.reduceMul, ms_n, ms_i, ms_l, ms_p, PM, fxM hF, j1 ()]
    by_cases e2 : σ 147 (2 + 3 * C.1) = chkN (σ 147) (2 + 3 * C.1)
    · rw [if_pos e2]
      by_cases e3 : 999 < 256 * σ 147 0 + σ 147 1
      · rw [if_pos e3]
        exact one (fun h => by have := h.2.2.1; omega)
      · rw [if_neg e3]
        refine At.blk rfl rfl rfl fun sx => ?_
        simp (decide := true) only [RR, ms_app, toList_some, toList_none, if_true, if_false, true_and, and_true, cond_true, sm0, sm1, sm1l, sm2, lc_lt, lc_gt, lc_eq, Int.toNat_natCast, Int.reduceToNat, Nat.reduceAdd, Nat.reduceEqDiff, Int.reduceLT, Int.reduceEq, Int.reduceNeg, Int.reduceAdd, Int.reduceMul, Nat.reduceMul, ms_n, ms_i, ms_l, ms_p, PM]
        have loop : ∀ m p : Nat, C.1 - p = m → p ≤ C.1 → ∀ o3 : Option mV, (∀ j, j < p → σ 147 (2 + 3 * j) ≤ 20 ∧ σ 147 (3 + 3 * j) ≤ 3 ∧ (σ 147 (4 + 3 * j) ≤ 20 ∨ 254 ≤ σ 147 (4 + 3 * j))) → At (d + 1) 270 3 [some (.inr (.inr 146)), some (.inl ((3 + 3 * C.1 : Nat) : Int)), some (.inl (p : Int)), o3] [] σ K := by
          intro m
          induction m with
          | zero =>
            intro p hp hp2 o3 hq
            obtain rfl : p = C.1 := by omega
            refine At.blk rfl rfl rfl fun sx => ?_
            simp (decide := true) only [RR, ms_app, toList_some, toList_none, if_true, if_false, true_and, and_true, cond_true, sm0, sm1, sm1l, sm2, lc_lt, lc_gt, lc_eq, Int.toNat_natCast, Int.reduceToNat, Nat.reduceAdd, Nat.reduceEqDiff, Int.reduceLT, Int.reduceEq, Int.reduceNeg, Int.reduceAdd, Int.reduceMul, Nat.reduceMul, ms_n, ms_i, ms_l, ms_p, PM]
            refine cal_of rfl (m_partMany hF ?_)
            simp (decide := true) only [RR, ms_app, toList_some, toList_none, if_true, if_false, true_and, and_true, cond_true, sm0, sm1, sm1l, sm2, lc_lt, lc_gt, lc_eq, Int.toNat_natCast, Int.reduceToNat, Nat.reduceAdd, Nat.reduceEqDiff, Int.reduceLT, Int.reduceEq, Int.reduceNeg, Int.reduceAdd, Int.reduceMul, Nat.reduceMul, ms_n, ms_i, ms_l, ms_p, PM, hn]
            rw [if_neg (by omega)]
            refine At.blk rfl rfl rfl fun sx => ?_
            simp (decide := true) only [RR, ms_app, toList_some, toList_none, if_true, if_false, true_and, and_true, cond_true, sm0, sm1, sm1l, sm2, lc_lt, lc_gt, lc_eq, Int.toNat_natCast, Int.reduceToNat, Nat.reduceAdd, Nat.reduceEqDiff, Int.reduceLT, Int.reduceEq, Int.reduceNeg, Int.reduceAdd, Int.reduceMul, Nat.reduceMul, ms_n, ms_i, ms_l, ms_p, PM]
            exact h1 ⟨by omega, e2, by omega, hq⟩
          | succ m ih =>
            intro p hp hp2 o3 hq
            have hp3 : p < C.1 := by omega
            have tb := hb (3 + 3 * p) (by omega)
            have tc := hb (4 + 3 * p) (by omega)
            have j1 : Unit → w32 (3 * (p : Int)) = ((3 * p : Nat) : Int) := fun _ => by rw [w32_small (by omega) (by omega)]; omega
            have j2 : Unit → w32 (2 + ((3 * p : Nat) : Int)) = ((2 + 3 * p : Nat) : Int) := fun _ => by rw [w32_small (by omega) (by omega)]; omega
            have j3 : Unit → w32 (((2 + 3 * p : Nat) : Int) + 1) = ((3 + 3 * p : Nat) : Int) := fun _ => by rw [w32_small (by omega) (by omega)]; omega
            have j4 : Unit → w32 (((2 + 3 * p : Nat) : Int) + 2) = ((4 + 3 * p : Nat) : Int) := fun _ => by rw [w32_small (by omega) (by omega)]; omega
            have j5 : Unit → w32 ((p : Int) + 1) = ((p + 1 : Nat) : Int) := fun _ => by rw [w32_small (by omega) (by omega)]; omega
            have five : (σ 147 (2 + 3 * p) ≤ 20 ∧ σ 147 (3 + 3 * p) ≤ 3 ∧ (σ 147 (4 + 3 * p) ≤ 20 ∨ 254 ≤ σ 147 (4 + 3 * p))) → At (d + 1) 270 5 [some (.inr (.inr 146)), some (.inl ((3 + 3 * C.1 : Nat) : Int)), some (.inl (p : Int)), some (.inl ((2 + 3 * p : Nat) : Int))] [] σ K := by
              intro h
              refine At.blk rfl rfl rfl fun sx => ?_
              simp (decide := true) only [RR, ms_app, toList_some, toList_none, if_true, if_false, true_and, and_true, cond_true, sm0, sm1, sm1l, sm2, lc_lt, lc_gt, lc_eq, Int.toNat_natCast, Int.reduceToNat, Nat.reduceAdd, Nat.reduceEqDiff, Int.reduceLT, Int.reduceEq, Int.reduceNeg, Int.reduceAdd, Int.reduceMul, Nat.reduceMul, ms_n, ms_i, ms_l, ms_p, PM, j5 ()]
              refine ih (p + 1) (by omega) (by omega) _ (fun j hj => ?_)
              by_cases e : j = p
              · rw [e]; exact h
              · exact hq j (by omega)
            have four : ¬(σ 147 (2 + 3 * p) ≤ 20 ∧ σ 147 (3 + 3 * p) ≤ 3 ∧ (σ 147 (4 + 3 * p) ≤ 20 ∨ 254 ≤ σ 147 (4 + 3 * p))) → At (d + 1) 270 4 [some (.inr (.inr 146)), some (.inl ((3 + 3 * C.1 : Nat) : Int)), some (.inl (p : Int)), some (.inl ((2 + 3 * p : Nat) : Int))] [] σ K := by
              intro h
              refine At.blk rfl rfl rfl fun sx => ?_
              simp (decide := true) only [RR, ms_app, toList_some, toList_none, if_true, if_false, true_and, and_true, cond_true, sm0, sm1, sm1l, sm2, lc_lt, lc_gt, lc_eq, Int.toNat_natCast, Int.reduceToNat, Nat.reduceAdd, Nat.reduceEqDiff, Int.reduceLT, Int.reduceEq, Int.reduceNeg, Int.reduceAdd, Int.reduceMul, Nat.reduceMul, ms_n, ms_i, ms_l, ms_p, PM]
              exact h0 (fun g => h (g.2.2.2 p hp3))
            refine At.blk rfl rfl rfl fun sx => ?_
            simp (decide := true) only [RR, ms_app, toList_some, toList_none, if_true, if_false, true_and, and_true, cond_true, sm0, sm1, sm1l, sm2, lc_lt, lc_gt, lc_eq, Int.toNat_natCast, Int.reduceToNat, Nat.reduceAdd, Nat.reduceEqDiff, Int.reduceLT, Int.reduceEq, Int.reduceNeg, Int.reduceAdd, Int.reduceMul, Nat.reduceMul, ms_n, ms_i, ms_l, ms_p, PM]
            refine cal_of rfl (m_partMany hF ?_)
            simp (decide := true) only [RR, ms_app, toList_some, toList_none, if_true, if_false, true_and, and_true, cond_true, sm0, sm1, sm1l, sm2, lc_lt, lc_gt, lc_eq, Int.toNat_natCast, Int.reduceToNat, Nat.reduceAdd, Nat.reduceEqDiff, Int.reduceLT, Int.reduceEq, Int.reduceNeg, Int.reduceAdd, Int.reduceMul, Nat.reduceMul, ms_n, ms_i, ms_l, ms_p, PM, fxM hF, hn, j1 (), j2 (), j3 (), j4 ()]
            rw [if_pos (by omega)]
            refine ⟨⟨by omega, by omega⟩, ?_⟩
            by_cases c1 : 20 < σ 147 (2 + 3 * p)
            · rw [if_pos c1]; exact four (by omega)
            · rw [if_neg c1]
              refine ⟨⟨by omega, by omega⟩, ?_⟩
              by_cases c2 : 3 < σ 147 (3 + 3 * p)
              · rw [if_pos c2]; exact four (by omega)
              · rw [if_neg c2]
                refine ⟨⟨by omega, by omega⟩, ?_⟩
                by_cases c3 : 20 < σ 147 (4 + 3 * p)
                · rw [if_pos c3]
                  by_cases c4 : σ 147 (4 + 3 * p) < 254
                  · rw [if_pos c4]; exact ⟨⟨by omega, by omega⟩, four (by omega)⟩
                  · rw [if_neg c4]; exact ⟨⟨by omega, by omega⟩, five (by omega)⟩
                · rw [if_neg c3]; exact five (by omega)
        exact loop C.1 0 rfl (by omega) none (fun j hj => absurd hj (by omega))
    · rw [if_neg e2]
      exact one (fun h => e2 h.2.1)
  · rw [if_neg e1]
    exact one (fun h => e1 (by have := h.1; omega))
end
theorem p_on {σ : mM} (h : Inv σ) : PairI Inv 136 271 [] σ := by
  have hF := h.1
  obtain ⟨C, w, l, hC, hcx, hcm, hw, hsx, hsm, hkx, hkm, hkv, h9⟩ := h.wrl
  obtain ⟨t1, t2, t3⟩ := h.2.1
  have n7 := hC.1
  have hcg := imgG_cg (t := σ 147) (t' := σ 2) (N := σ 1 1) (n := C.1) (fun k hk => (t3 k hk).1)
  refine Mt.go (lv := [some (.inr (.inr 0)), none]) rfl rfl rfl ?_
  refine At.blk rfl rfl rfl fun sx => ?_
  simp (decide := true) only [RR, ms_app, toList_some, toList_none, if_true, if_false, true_and, and_true, cond_true, sm0, sm1, sm1l, sm2, lc_lt, lc_gt, lc_eq, Int.toNat_natCast, Int.reduceToNat, Nat.reduceAdd, Nat.reduceEqDiff, Int.reduceLT, Int.reduceEq, Int.reduceNeg, Int.reduceAdd, Int.reduceMul, Nat.reduceMul, ms_n, ms_i, ms_l, ms_p, PX]
  refine cal_of rfl (x_tapeIsImage hF hC hcx.1 t2 (fun k hk => (t3 k hk).2) (fun hg => ?_) (fun hg => ?_))
  · simp (decide := true) only [RR, ms_app, toList_some, toList_none, if_true, if_false, true_and, and_true, cond_true, sm0, sm1, sm1l, sm2, lc_lt, lc_gt, lc_eq, Int.toNat_natCast, Int.reduceToNat, Nat.reduceAdd, Nat.reduceEqDiff, Int.reduceLT, Int.reduceEq, Int.reduceNeg, Int.reduceAdd, Int.reduceMul, Nat.reduceMul, ms_n, ms_i, ms_l, ms_p, PX]
    have eN : σ 1 1 = 3 + 3 * (C.1 : Int) := hg.1
    refine cal_of rfl (x_takeImage hF hC hcx.1 (fun k hk => (t3 k (by omega)).2) (by rw [← eN]; exact hg) (fun σ1 f1 s1 e39 e41 => ?_))
    have hF1 := hF.fr f1 rfl
    simp (decide := true) only [RR, ms_app, toList_some, toList_none, if_true, if_false, true_and, and_true, cond_true, sm0, sm1, sm1l, sm2, lc_lt, lc_gt, lc_eq, Int.toNat_natCast, Int.reduceToNat, Nat.reduceAdd, Nat.reduceEqDiff, Int.reduceLT, Int.reduceEq, Int.reduceNeg, Int.reduceAdd, Int.reduceMul, Nat.reduceMul, ms_n, ms_i, ms_l, ms_p, PX]
    refine At.blk rfl rfl rfl fun sx => ?_
    simp (decide := true) only [RR, ms_app, toList_some, toList_none, if_true, if_false, true_and, and_true, cond_true, sm0, sm1, sm1l, sm2, lc_lt, lc_gt, lc_eq, Int.toNat_natCast, Int.reduceToNat, Nat.reduceAdd, Nat.reduceEqDiff, Int.reduceLT, Int.reduceEq, Int.reduceNeg, Int.reduceAdd, Int.reduceMul, Nat.reduceMul, ms_n, ms_i, ms_l, ms_p, PX, fxX hF1]
    refine At.blk rfl rfl rfl fun sx => ?_
    simp (decide := true) only [RR, ms_app, toList_some, toList_none, if_true, if_false, true_and, and_true, cond_true, sm0, sm1, sm1l, sm2, lc_lt, lc_gt, lc_eq, Int.toNat_natCast, Int.reduceToNat, Nat.reduceAdd, Nat.reduceEqDiff, Int.reduceLT, Int.reduceEq, Int.reduceNeg, Int.reduceAdd, Int.reduceMul, Nat.reduceMul, ms_n, ms_i, ms_l, ms_p, PX]
    refine At.blk rfl rfl rfl fun sx => ?_
    simp (decide := true) only [RR, ms_app, toList_some, toList_none, if_true, if_false, true_and, and_true, cond_true, sm0, sm1, sm1l, sm2, lc_lt, lc_gt, lc_eq, Int.toNat_natCast, Int.reduceToNat, Nat.reduceAdd, Nat.reduceEqDiff, Int.reduceLT, Int.reduceEq, Int.reduceNeg, Int.reduceAdd, Int.reduceMul, Nat.reduceMul, ms_n, ms_i, ms_l, ms_p, PX]
    refine ⟨1, rfl, ?_⟩
    have f2 : Fr [29, 30] [(28, 2), (28, 3), (28, 4), (39, 1), (41, 3), (1, 1)] σ (mj_set σ1 1 1 0) := (f1.mono rfl).set rfl
    have s2 : SkX (mj_set σ1 1 1 0) 28 C (imgW (σ 2)) := s1.cg rfl rfl rfl
    have e39' : mj_set σ1 1 1 0 39 1 = 0 := e39
    have e41' : mj_set σ1 1 1 0 41 3 = 0 := e41
    have e11 : mj_set σ1 1 1 0 1 1 = 0 := rfl
    generalize mj_set σ1 1 1 0 = σ2 at *
    have hF2 := hF.fr f2 rfl
    have r146 : σ2 146 = σ 146 := f2.row 146 rfl
    have r147 : σ2 147 = σ 147 := f2.row 147 rfl
    have r182 : σ2 182 = σ 182 := f2.row 182 rfl
    have r173 : σ2 173 2 = (C.1 : Int) := (f2 173 2 rfl).trans hcm.1
    have e146 : σ2 146 1 = 3 + 3 * (C.1 : Int) := by rw [r146, t1]; exact eN
    have hF3 : Fix (mj_set σ2 146 1 0) := hF2.set rfl
    have hb : ∀ k : Nat, (k : Int) < 3 + 3 * (C.1 : Int) → 0 ≤ σ2 147 k ∧ σ2 147 k ≤ 255 := fun k hk => by
      rw [r147, (t3 k (by omega)).1]; exact (t3 k (by omega)).2
    have hg2 : imgG (σ2 147) (3 + 3 * (C.1 : Int)) C.1 := by
      rw [r147]
      have := hcg.mpr hg
      rw [eN] at this
      exact this
    refine Mt.go (lv := [some (.inr (.inr 146)), none, none, none]) rfl rfl rfl ?_
    refine At.blk rfl rfl rfl fun sx => ?_
    simp (decide := true) only [RR, ms_app, toList_some, toList_none, if_true, if_false, true_and, and_true, cond_true, sm0, sm1, sm1l, sm2, lc_lt, lc_gt, lc_eq, Int.toNat_natCast, Int.reduceToNat, Nat.reduceAdd, Nat.reduceEqDiff, Int.reduceLT, Int.reduceEq, Int.reduceNeg, Int.reduceAdd, Int.reduceMul, Nat.reduceMul, ms_n, ms_i, ms_l, ms_p, PM, e146]
    refine cal_of rfl (m_isImage hF3 hC r173 (by omega) hb (fun _ => ?_) (fun hn => absurd hg2 hn))
    simp (decide := true) only [RR, ms_app, toList_some, toList_none, if_true, if_false, true_and, and_true, cond_true, sm0, sm1, sm1l, sm2, lc_lt, lc_gt, lc_eq, Int.toNat_natCast, Int.reduceToNat, Nat.reduceAdd, Nat.reduceEqDiff, Int.reduceLT, Int.reduceEq, Int.reduceNeg, Int.reduceAdd, Int.reduceMul, Nat.reduceMul, ms_n, ms_i, ms_l, ms_p, PM]
    have u0 := hb 0 (by omega)
    have u1 := hb 1 (by omega)
    have j1 : Unit → w32 (w32 (256 * σ2 147 0) + σ2 147 1) = 256 * σ2 147 0 + σ2 147 1 := fun _ => by rw [w32_small (x := 256 * σ2 147 0) (by omega) (by omega), w32_small (by omega) (by omega)]
    refine At.blk rfl rfl rfl fun sx => ?_
    simp (decide := true) only [RR, ms_app, toList_some, toList_none, if_true, if_false, true_and, and_true, cond_true, sm0, sm1, sm1l, sm2, lc_lt, lc_gt, lc_eq, Int.toNat_natCast, Int.reduceToNat, Nat.reduceAdd, Nat.reduceEqDiff, Int.reduceLT, Int.reduceEq, Int.reduceNeg, Int.reduceAdd, Int.reduceMul, Nat.reduceMul, ms_n, ms_i, ms_l, ms_p, PM, fxM hF2, j1 ()]
    have tt : ∀ k : Nat, (k : Int) < 3 + 3 * (C.1 : Int) → σ2 147 k = σ 2 k := fun k hk => by rw [r147]; exact (t3 k (by omega)).1
    obtain ⟨-, -, g3, g4⟩ := hg
    have loop : ∀ m k : Nat, C.1 - k = m → k ≤ C.1 → ∀ (σ' : mM) (o3 : Option mV), Fr [182] [(146, 1)] σ2 σ' → σ' 146 1 = 0 → SkM σ' (k, C.2) (imgW (σ 2)) → At 999 271 2 [some (.inr (.inr 146)), some (.inl (3 + 3 * (C.1 : Int))), some (.inl (k : Int)), o3] [] σ' (fun r2 σ2 => r2 = some (.inl 1) ∧ Inv σ2) := by
      intro m
      induction m with
      | zero =>
        intro k hk hk2 σ' o3 fr e1 sk
        obtain rfl : k = C.1 := by omega
        have hF' := hF2.fr fr rfl
        have en : σ' 173 2 = (C.1 : Int) := (fr 173 2 rfl).trans r173
        refine At.blk rfl rfl rfl fun sx => ?_
        simp (decide := true) only [RR, ms_app, toList_some, toList_none, if_true, if_false, true_and, and_true, cond_true, sm0, sm1, sm1l, sm2, lc_lt, lc_gt, lc_eq, Int.toNat_natCast, Int.reduceToNat, Nat.reduceAdd, Nat.reduceEqDiff, Int.reduceLT, Int.reduceEq, Int.reduceNeg, Int.reduceAdd, Int.reduceMul, Nat.reduceMul, ms_n, ms_i, ms_l, ms_p, PM]
        refine cal_of rfl (m_partMany hF' ?_)
        simp (decide := true) only [RR, ms_app, toList_some, toList_none, if_true, if_false, true_and, and_true, cond_true, sm0, sm1, sm1l, sm2, lc_lt, lc_gt, lc_eq, Int.toNat_natCast, Int.reduceToNat, Nat.reduceAdd, Nat.reduceEqDiff, Int.reduceLT, Int.reduceEq, Int.reduceNeg, Int.reduceAdd, Int.reduceMul, Nat.reduceMul, ms_n, ms_i, ms_l, ms_p, PM, en]
        rw [if_neg (by omega)]
        refine At.blk rfl rfl rfl fun sx => ?_
        simp (decide := true) only [RR, ms_app, toList_some, toList_none, if_true, if_false, true_and, and_true, cond_true, sm0, sm1, sm1l, sm2, lc_lt, lc_gt, lc_eq, Int.toNat_natCast, Int.reduceToNat, Nat.reduceAdd, Nat.reduceEqDiff, Int.reduceLT, Int.reduceEq, Int.reduceNeg, Int.reduceAdd, Int.reduceMul, Nat.reduceMul, ms_n, ms_i, ms_l, ms_p, PM, fxM hF']
        have F : Fr [29, 30, 182] [(28, 2), (28, 3), (28, 4), (39, 1), (41, 3), (1, 1), (146, 1), (146, 65)] σ (mj_set (mj_set σ' 182 29 0) 146 65 0) := (((f2.mono rfl).trans (fr.mono rfl)).setr rfl).set rfl
        have sk2 : SkM (mj_set (mj_set σ' 182 29 0) 146 65 0) C (imgW (σ 2)) := by
          refine SkM.cg (σ := σ') sk (fun j hj => ?_) n7
          rw [ms_row (by decide), ms_app, if_pos rfl, if_neg (by omega)]
        have sx2 : SkX (mj_set (mj_set σ' 182 29 0) 146 65 0) 28 C (imgW (σ 2)) := s2.cg (fr.row 28 rfl) (fr.row 29 rfl) (fr.row 30 rfl)
        have q29 : mj_set (mj_set σ' 182 29 0) 146 65 0 182 29 = 0 := rfl
        have q65 : mj_set (mj_set σ' 182 29 0) 146 65 0 146 65 = 0 := rfl
        have q39 : mj_set (mj_set σ' 182 29 0) 146 65 0 39 1 = 0 := (fr 39 1 rfl).trans e39'
        have q41 : mj_set (mj_set σ' 182 29 0) 146 65 0 41 3 = 0 := (fr 41 3 rfl).trans e41'
        have q11 : mj_set (mj_set σ' 182 29 0) 146 65 0 1 1 = 0 := (fr 1 1 rfl).trans e11
        have q146 : mj_set (mj_set σ' 182 29 0) 146 65 0 146 1 = 0 := e1
        generalize mj_set (mj_set σ' 182 29 0) 146 65 0 = σ9 at *
        have wV : SkV C (imgW (σ 2)) := by
          refine ⟨by show 0 ≤ 256 * σ 2 0 + σ 2 1 ∧ 256 * σ 2 0 + σ 2 1 ≤ 5000; have a0 := (t3 0 (by omega)).2; have a1 := (t3 1 (by omega)).2; omega, fun p hp => ?_⟩
          obtain ⟨p1, p2, p3⟩ := g4 p hp
          have ta := (t3 (2 + 3 * p) (by omega)).2
          have tb := (t3 (3 + 3 * p) (by omega)).2
          have tc := (t3 (4 + 3 * p) (by omega)).2
          refine ⟨by show 0 ≤ σ 2 (2 + 3 * p) ∧ σ 2 (2 + 3 * p) ≤ 20; omega, by show σ 2 (3 + 3 * p) % 2 = 0 ∨ σ 2 (3 + 3 * p) % 2 = 1; omega, by show σ 2 (3 + 3 * p) / 2 = 0 ∨ σ 2 (3 + 3 * p) / 2 = 1; omega, ?_⟩
          show -2 ≤ (if σ 2 (4 + 3 * p) ≤ 20 then σ 2 (4 + 3 * p) else σ 2 (4 + 3 * p) - 256) ∧ (if σ 2 (4 + 3 * p) ≤ 20 then σ 2 (4 + 3 * p) else σ 2 (4 + 3 * p) - 256) ≤ 20
          split <;> omega
        obtain ⟨iF, iT, iR, iff, iZ, iP, iS, iC, iN, ik2, iU, ith⟩ := h
        obtain ⟨u1, u2, u3, u4, u5⟩ := iU
        have e34 : σ9 3 4 = (C.1 : Int) := (F 3 4 rfl).trans hcx.1
        refine ⟨iF.fr F rfl, ⟨by rw [q146, q11], by rw [q11]; decide, fun k hk => by rw [q11] at hk; omega⟩, iR.cg (F.row 148 rfl) (F.row 145 rfl), iff.cg (F 146 7 rfl) (F 19 2 rfl) (F 146 8 rfl) (F 19 3 rfl), iZ.cg (F 146 67 rfl) (F 0 13 rfl), iP.cg (F 146 99 rfl) (F 0 12 rfl) (F.row 217 rfl) (F.row 144 rfl), iS.cg (F 146 58 rfl) (F 31 1 rfl) (F.row 189 rfl) (F.row 32 rfl) (F 3 4 rfl), iC.cg (F.row 173 rfl) (F.row 3 rfl) (F.row 178 rfl) (F.row 4 rfl) (F.row 174 rfl) (F.row 176 rfl) (F.row 6 rfl) (F.row 9 rfl) (F.row 10 rfl) (F.row 8 rfl) (F.row 179 rfl) (F.row 180 rfl) (F.row 181 rfl), sky_of e34 wV sx2 sk2 ⟨?_, g3⟩, ⟨by rw [q39]; exact q29, by rw [q39]; decide, fun k hk => by rw [q39] at hk; omega⟩, ⟨by rw [q65, q41], by rw [q41]; decide, by rw [F 146 66 rfl]; exact u3, by rw [F 41 2 rfl, F 146 66 rfl]; exact u4, fun j hj => by rw [q41] at hj; omega⟩, by rw [F 146 53 rfl]; exact ith⟩
        show 0 ≤ 256 * σ 2 0 + σ 2 1
        have a0 := (t3 0 (by omega)).2
        have a1 := (t3 1 (by omega)).2
        omega
      | succ m ih =>
        intro k hk hk2 σ' o3 fr e1 sk
        have hk3 : k < C.1 := by omega
        have hF' := hF2.fr fr rfl
        have en : σ' 173 2 = (C.1 : Int) := (fr 173 2 rfl).trans r173
        have rr : ∀ j : Nat, (j : Int) < 3 + 3 * (C.1 : Int) → σ' 147 j = σ 2 j := fun j hj => (fr 147 j rfl).trans (tt j hj)
        obtain ⟨p1, p2, p3⟩ := g4 k hk3
        have ta := (t3 (2 + 3 * k) (by omega)).2
        have tb := (t3 (3 + 3 * k) (by omega)).2
        have tc := (t3 (4 + 3 * k) (by omega)).2
        have j1 : Unit → w32 (3 * (k : Int)) = ((3 * k : Nat) : Int) := fun _ => by rw [w32_small (by omega) (by omega)]; omega
        have j2 : Unit → w32 (2 + ((3 * k : Nat) : Int)) = ((2 + 3 * k : Nat) : Int) := fun _ => by rw [w32_small (by omega) (by omega)]; omega
        have j3 : Unit → w32 (((2 + 3 * k : Nat) : Int) + 1) = ((3 + 3 * k : Nat) : Int) := fun _ => by rw [w32_small (by omega) (by omega)]; omega
        have j4 : Unit → w32 (((2 + 3 * k : Nat) : Int) + 2) = ((4 + 3 * k : Nat) : Int) := fun _ => by rw [w32_small (by omega) (by omega)]; omega
        have j5 : Unit → w32 ((k : Int) + 1) = ((k + 1 : Nat) : Int) := fun _ => by rw [w32_small (by omega) (by omega)]; omega
        have j6 : Unit → w32 (4 * (k : Int)) = ((4 * k : Nat) : Int) := fun _ => by rw [w32_small (by omega) (by omega)]; omega
        have j7 : Unit → w32 (1 + ((4 * k : Nat) : Int)) = ((1 + 4 * k : Nat) : Int) := fun _ => by rw [w32_small (by omega) (by omega)]; omega
        have j8 : Unit → w32 (2 + ((4 * k : Nat) : Int)) = ((2 + 4 * k : Nat) : Int) := fun _ => by rw [w32_small (by omega) (by omega)]; omega
        have j9 : Unit → w32 (3 + ((4 * k : Nat) : Int)) = ((3 + 4 * k : Nat) : Int) := fun _ => by rw [w32_small (by omega) (by omega)]; omega
        have j10 : Unit → w32 (4 + ((4 * k : Nat) : Int)) = ((4 + 4 * k : Nat) : Int) := fun _ => by rw [w32_small (by omega) (by omega)]; omega
        have m1 : (σ 2 (3 + 3 * k)).tmod 2 = σ 2 (3 + 3 * k) % 2 := Int.tmod_eq_emod_of_nonneg (by omega)
        have m2 : Unit → w32 ((σ 2 (3 + 3 * k)).tdiv 2) = σ 2 (3 + 3 * k) / 2 := fun _ => by rw [Int.tdiv_eq_ediv_of_nonneg (by omega), w32_small (by omega) (by omega)]
        have four : ∀ (v : Int) (σ5 : mM), Fr [182] [(146, 1)] σ2 σ5 → σ5 146 1 = 0 → (∀ j, σ5 182 j = if j = 3 + 4 * k then σ 2 (3 + 3 * k) / 2 else if j = 2 + 4 * k then σ 2 (3 + 3 * k) % 2 else if j = 1 + 4 * k then σ 2 (2 + 3 * k) else σ' 182 j) → v = (imgW (σ 2)).2.2.2.2 k → At 999 271 4 [some (.inr (.inr 146)), some (.inl (3 + 3 * (C.1 : Int))), some (.inl (k : Int)), some (.inl ((2 + 3 * k : Nat) : Int))] [.inl v, .inl ((4 + 4 * k : Nat) : Int), .inr (.inr 182)] σ5 (fun r2 σ2 => r2 = some (.inl 1) ∧ Inv σ2) := by
          intro v σ5 f5 e5 g5 hv
          refine At.blk rfl rfl rfl fun sx => ?_
          simp (decide := true) only [RR, ms_app, toList_some, toList_none, if_true, if_false, true_and, and_true, cond_true, sm0, sm1, sm1l, sm2, lc_lt, lc_gt, lc_eq, Int.toNat_natCast, Int.reduceToNat, Nat.reduceAdd, Nat.reduceEqDiff, Int.reduceLT, Int.reduceEq, Int.reduceNeg, Int.reduceAdd, Int.reduceMul, Nat.reduceMul, ms_n, ms_i, ms_l, ms_p, PM]
          refine ⟨⟨by omega, by omega⟩, ?_⟩
          rw [j5 ()]
          refine ih (k + 1) (by omega) (by omega) _ _ (f5.setr rfl) e5 ⟨?_, fun j hj => ?_⟩
          · rw [ms_app, if_pos rfl, if_neg (by omega), g5, if_neg (by omega), if_neg (by omega), if_neg (by omega)]
            exact sk.1
          · have hj : j < k + 1 := hj
            have G : ∀ i, mj_set σ5 182 (4 + 4 * k) v 182 i = if i = 4 + 4 * k then v else if i = 3 + 4 * k then σ 2 (3 + 3 * k) / 2 else if i = 2 + 4 * k then σ 2 (3 + 3 * k) % 2 else if i = 1 + 4 * k then σ 2 (2 + 3 * k) else σ' 182 i := fun i => by
              rw [ms_app, if_pos rfl, g5]
            by_cases e : j = k
            · subst e
              exact ⟨by rw [G, if_neg (by omega), if_neg (by omega), if_neg (by omega), if_pos rfl]; rfl, by rw [G, if_neg (by omega), if_neg (by omega), if_pos rfl]; rfl, by rw [G, if_neg (by omega), if_pos rfl]; rfl, by rw [G, if_pos rfl]; exact hv⟩
            · obtain ⟨a1, a2, a3, a4⟩ := sk.2 j (by show j < k; omega)
              exact ⟨by rw [G, if_neg (by omega), if_neg (by omega), if_neg (by omega), if_neg (by omega)]; exact a1, by rw [G, if_neg (by omega), if_neg (by omega), if_neg (by omega), if_neg (by omega)]; exact a2, by rw [G, if_neg (by omega), if_neg (by omega), if_neg (by omega), if_neg (by omega)]; exact a3, by rw [G, if_neg (by omega), if_neg (by omega), if_neg (by omega), if_neg (by omega)]; exact a4⟩
        refine At.blk rfl rfl rfl fun sx => ?_
        simp (decide := true) only [RR, ms_app, toList_some, toList_none, if_true, if_false, true_and, and_true, cond_true, sm0, sm1, sm1l, sm2, lc_lt, lc_gt, lc_eq, Int.toNat_natCast, Int.reduceToNat, Nat.reduceAdd, Nat.reduceEqDiff, Int.reduceLT, Int.reduceEq, Int.reduceNeg, Int.reduceAdd, Int.reduceMul, Nat.reduceMul, ms_n, ms_i, ms_l, ms_p, PM]
        refine cal_of rfl (m_partMany hF' ?_)
        simp (decide := true) only [RR, ms_app, toList_some, toList_none, if_true, if_false, true_and, and_true, cond_true, sm0, sm1, sm1l, sm2, lc_lt, lc_gt, lc_eq, Int.toNat_natCast, Int.reduceToNat, Nat.reduceAdd, Nat.reduceEqDiff, Int.reduceLT, Int.reduceEq, Int.reduceNeg, Int.reduceAdd, Int.reduceMul, Nat.reduceMul, ms_n, ms_i, ms_l, ms_p, PM, fxM hF', en, j1 (), j2 (), j3 (), j4 (), j6 (), j7 (), j8 (), j9 (), j10 (), rr (2 + 3 * k) (by omega), rr (3 + 3 * k) (by omega), rr (4 + 3 * k) (by omega), m1, m2 ()]
        rw [if_pos (by omega)]
        refine ⟨⟨by omega, by omega⟩, ⟨by omega, by omega⟩, ⟨by omega, by omega⟩, ⟨by omega, by omega⟩, ⟨by omega, by omega⟩, ⟨by omega, by omega⟩, ⟨by omega, by omega⟩, ?_⟩
        have g6 : ∀ j, mj_set (mj_set (mj_set σ' 182 (1 + 4 * k) (σ 2 (2 + 3 * k))) 182 (2 + 4 * k) (σ 2 (3 + 3 * k) % 2)) 182 (3 + 4 * k) (σ 2 (3 + 3 * k) / 2) 182 j = if j = 3 + 4 * k then σ 2 (3 + 3 * k) / 2 else if j = 2 + 4 * k then σ 2 (3 + 3 * k) % 2 else if j = 1 + 4 * k then σ 2 (2 + 3 * k) else σ' 182 j := fun j => by
          rw [ms_app, if_pos rfl, ms_app, if_pos rfl, ms_app, if_pos rfl]
        by_cases c : 20 < σ 2 (4 + 3 * k)
        · rw [if_pos c]
          refine ⟨⟨by omega, by omega⟩, ?_⟩
          rw [w32_small (by omega) (by omega)]
          refine four _ _ (((fr.setr rfl).setr rfl).setr rfl) e1 g6 ?_
          show _ = if σ 2 (4 + 3 * k) ≤ 20 then _ else _
          rw [if_neg (by omega)]
        · rw [if_neg c]
          refine At.blk rfl rfl rfl fun sx => ?_
          simp (decide := true) only [RR, ms_app, toList_some, toList_none, if_true, if_false, true_and, and_true, cond_true, sm0, sm1, sm1l, sm2, lc_lt, lc_gt, lc_eq, Int.toNat_natCast, Int.reduceToNat, Nat.reduceAdd, Nat.reduceEqDiff, Int.reduceLT, Int.reduceEq, Int.reduceNeg, Int.reduceAdd, Int.reduceMul, Nat.reduceMul, ms_n, ms_i, ms_l, ms_p, PM, fxM hF', j4 (), rr (4 + 3 * k) (by omega)]
          refine ⟨⟨by omega, by omega⟩, ?_⟩
          refine four _ _ (((fr.setr rfl).setr rfl).setr rfl) e1 g6 ?_
          show _ = if σ 2 (4 + 3 * k) ≤ 20 then _ else _
          rw [if_pos (by omega)]
    refine loop C.1 0 rfl (by omega) _ none ((Fr.same.set rfl).setr rfl) rfl ⟨?_, fun p hp => absurd hp (Nat.not_lt_zero p)⟩
    rw [ms_app, if_pos rfl, if_pos rfl, tt 0 (by omega), tt 1 (by omega)]
    rfl
  · simp (decide := true) only [RR, ms_app, toList_some, toList_none, if_true, if_false, true_and, and_true, cond_true, sm0, sm1, sm1l, sm2, lc_lt, lc_gt, lc_eq, Int.toNat_natCast, Int.reduceToNat, Nat.reduceAdd, Nat.reduceEqDiff, Int.reduceLT, Int.reduceEq, Int.reduceNeg, Int.reduceAdd, Int.reduceMul, Nat.reduceMul, ms_n, ms_i, ms_l, ms_p, PX]
    refine At.blk rfl rfl rfl fun sx => ?_
    simp (decide := true) only [RR, ms_app, toList_some, toList_none, if_true, if_false, true_and, and_true, cond_true, sm0, sm1, sm1l, sm2, lc_lt, lc_gt, lc_eq, Int.toNat_natCast, Int.reduceToNat, Nat.reduceAdd, Nat.reduceEqDiff, Int.reduceLT, Int.reduceEq, Int.reduceNeg, Int.reduceAdd, Int.reduceMul, Nat.reduceMul, ms_n, ms_i, ms_l, ms_p, PX, fxX hF]
    have hF1 : Fix (mj_set σ 1 1 0) := hF.set rfl
    refine cal_of rfl (x_deny (k := 5) hF1 (by decide) ?_)
    simp (decide := true) only [RR, ms_app, toList_some, toList_none, if_true, if_false, true_and, and_true, cond_true, sm0, sm1, sm1l, sm2, lc_lt, lc_gt, lc_eq, Int.toNat_natCast, Int.reduceToNat, Nat.reduceAdd, Nat.reduceEqDiff, Int.reduceLT, Int.reduceEq, Int.reduceNeg, Int.reduceAdd, Int.reduceMul, Nat.reduceMul, ms_n, ms_i, ms_l, ms_p, PX]
    refine At.blk rfl rfl rfl fun sx => ?_
    simp (decide := true) only [RR, ms_app, toList_some, toList_none, if_true, if_false, true_and, and_true, cond_true, sm0, sm1, sm1l, sm2, lc_lt, lc_gt, lc_eq, Int.toNat_natCast, Int.reduceToNat, Nat.reduceAdd, Nat.reduceEqDiff, Int.reduceLT, Int.reduceEq, Int.reduceNeg, Int.reduceAdd, Int.reduceMul, Nat.reduceMul, ms_n, ms_i, ms_l, ms_p, PX]
    refine At.blk rfl rfl rfl fun sx => ?_
    simp (decide := true) only [RR, ms_app, toList_some, toList_none, if_true, if_false, true_and, and_true, cond_true, sm0, sm1, sm1l, sm2, lc_lt, lc_gt, lc_eq, Int.toNat_natCast, Int.reduceToNat, Nat.reduceAdd, Nat.reduceEqDiff, Int.reduceLT, Int.reduceEq, Int.reduceNeg, Int.reduceAdd, Int.reduceMul, Nat.reduceMul, ms_n, ms_i, ms_l, ms_p, PX]
    refine ⟨0, rfl, ?_⟩
    refine Mt.go (lv := [some (.inr (.inr 146)), none, none, none]) rfl rfl rfl ?_
    have hF2 : Fix (mj_set (mj_set (mj_set σ 1 1 0) 145 5 (w32 (σ 145 5 + 1))) 146 1 0) := ((hF.set rfl).set rfl).set rfl
    refine At.blk rfl rfl rfl fun sx => ?_
    simp (decide := true) only [RR, ms_app, toList_some, toList_none, if_true, if_false, true_and, and_true, cond_true, sm0, sm1, sm1l, sm2, lc_lt, lc_gt, lc_eq, Int.toNat_natCast, Int.reduceToNat, Nat.reduceAdd, Nat.reduceEqDiff, Int.reduceLT, Int.reduceEq, Int.reduceNeg, Int.reduceAdd, Int.reduceMul, Nat.reduceMul, ms_n, ms_i, ms_l, ms_p, PM, t1]
    refine cal_of rfl (m_isImage (C := C) hF2 hC hcm.1 t2 (fun k hk => ?_) (fun hg2 => absurd (hcg.mp hg2) hg) (fun _ => ?_))
    · show 0 ≤ σ 147 k ∧ σ 147 k ≤ 255
      rw [(t3 k hk).1]; exact (t3 k hk).2
    · simp (decide := true) only [RR, ms_app, toList_some, toList_none, if_true, if_false, true_and, and_true, cond_true, sm0, sm1, sm1l, sm2, lc_lt, lc_gt, lc_eq, Int.toNat_natCast, Int.reduceToNat, Nat.reduceAdd, Nat.reduceEqDiff, Int.reduceLT, Int.reduceEq, Int.reduceNeg, Int.reduceAdd, Int.reduceMul, Nat.reduceMul, ms_n, ms_i, ms_l, ms_p, PM, fxM hF]
      have I := (h.tape0).ref (k := 5) (by decide)
      rw [ms_comm (q := 146) (q' := 145) (by decide)] at I
      exact I
