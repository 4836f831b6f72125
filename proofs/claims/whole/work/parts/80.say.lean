/-! say -/
def sayB (C : Ct) (w : Sk) (p n : Nat) : Nat → Int × Int
  | 0 => (-1, 0)
  | k + 1 => if (sayB C w p n k).1 = -1 ∨ rosN C (actW w p (k : Int)) n < (sayB C w p n k).2 ∨ (rosN C (actW w p (k : Int)) n = (sayB C w p n k).2 ∧ truB C w p k = true ∧ truB C w p (sayB C w p n k).1.toNat = false) then ((k : Int), rosN C (actW w p (k : Int)) n) else sayB C w p n k
theorem sayB_le {C : Ct} {w : Sk} {p n : Nat} : ∀ k : Nat, (k = 0 ∧ (sayB C w p n k).1 = -1) ∨ (0 < k ∧ 0 ≤ (sayB C w p n k).1 ∧ (sayB C w p n k).1 < k)
  | 0 => Or.inl ⟨rfl, rfl⟩
  | k + 1 => by
    refine Or.inr ⟨by omega, ?_⟩
    have ih := sayB_le (C := C) (w := w) (p := p) (n := n) k
    unfold sayB
    split
    · simp only
      omega
    · rename_i h
      rcases ih with ⟨h1, h2⟩ | ⟨h1, h2, h3⟩
      · exact absurd (Or.inl h2) h
      · omega
def sayV (C : Ct) (w : Sk) (a n b : Int) : Int := if (0 ≤ a ∧ a < C.1) ∧ (1 ≤ n ∧ n ≤ 20 ∧ w.1 + n ≤ 999) ∧ (0 ≤ b ∧ b ≤ 1) then (if b = 0 then (sayB C w a.toNat n.toNat 21).1 else (sayB C w a.toNat n.toNat 21).2) else -1
section
variable {d : Nat} {σ σ0 : mM} {K : Option mV → mM → Prop} {C : Ct} {w : Sk} {l : Kp}
theorem Th.mw {σ' : mM} (h : Th σ0 σ) (f : Fr mwL mwT σ σ') : Th σ0 σ' :=
  ⟨h.1.trans (f.mono rfl), fun k hk => (f 183 k rfl).trans (h.2.1 k hk), fun j hj => (f 182 j rfl).trans (h.2.2.1 j hj), (f 146 53 rfl).trans h.2.2.2⟩
theorem Th.put {k : Nat} {v : Int} (h : Th σ0 σ) (hk : k < 29) : Th σ0 (mj_set σ 182 k v) :=
  ⟨h.1.setr rfl, fun j hj => h.2.1 j hj, fun j hj => by rw [ms_app, if_pos rfl, if_neg (by omega)]; exact h.2.2.1 j hj, h.2.2.2⟩
theorem x_isTruer {f : Nat → Bool} {u v : Nat} (hu : u < 21) (hv : v < 21) (h1 : f u = true ∧ f v = false → K (some (.inl 1)) σ) (h0 : ¬(f u = true ∧ f v = false) → K (some (.inl 0)) σ) : Mt (d + 1) 21 [.inl ((bitsN f 21 : Nat) : Int), .inl (u : Int), .inl (v : Int)] σ K := by
  have hb := bitsN_lt f 21
  have e1 : i_and (i_shr ((bitsN f 21 : Nat) : Int) (u : Int)) 1 = if f u = true then 1 else 0 := by
    rw [i_bit (by omega) (by omega) (by omega), Int.toNat_natCast, bitsN_bit 21 hu]
  have e2 : i_and (i_shr ((bitsN f 21 : Nat) : Int) (v : Int)) 1 = if f v = true then 1 else 0 := by
    rw [i_bit (by omega) (by omega) (by omega), Int.toNat_natCast, bitsN_bit 21 hv]
  generalize bitsN f 21 = B at *
  refine Mt.go (lv := [some (.inl (B : Int)), some (.inl (u : Int)), some (.inl (v : Int))]) rfl rfl rfl ?_
  refine At.blk rfl rfl rfl fun sx => ?_
  simp (decide := true) only [RR, ms_app, toList_some, toList_none, if_true, if_false, true_and, and_true, cond_true, sm0, sm1, sm1l, sm2, lc_lt, lc_gt, lc_eq, Int.toNat_natCast, Int.reduceToNat, Nat.reduceAdd, Nat.reduceEqDiff, Int.reduceLT, Int.reduceEq, Int.reduceNeg, Int.reduceAdd, Int.reduceMul, Nat.reduceMul, ms_n, ms_i, ms_l, ms_p, PX, e1, e2]
  by_cases hh : f u = true ∧ f v = false
  · rw [if_pos hh.1, if_neg (show ¬f v = true by rw [hh.2]; decide), if_pos (by decide)]
    refine At.blk rfl rfl rfl fun sx => ?_
    simp (decide := true) only [RR, ms_app, toList_some, toList_none, if_true, if_false, true_and, and_true, cond_true, sm0, sm1, sm1l, sm2, lc_lt, lc_gt, lc_eq, Int.toNat_natCast, Int.reduceToNat, Nat.reduceAdd, Nat.reduceEqDiff, Int.reduceLT, Int.reduceEq, Int.reduceNeg, Int.reduceAdd, Int.reduceMul, Nat.reduceMul, ms_n, ms_i, ms_l, ms_p, PX]
    exact h1 hh
  · have : ¬((if f v = true then (1 : Int) else 0) < (if f u = true then 1 else 0)) := by
      intro hlt
      apply hh
      by_cases a : f u = true
      · by_cases b : f v = true
        · rw [if_pos a, if_pos b] at hlt; omega
        · exact ⟨a, by simpa using b⟩
      · rw [if_neg a] at hlt
        split at hlt <;> omega
    rw [if_neg this]
    refine At.blk rfl rfl rfl fun sx => ?_
    simp (decide := true) only [RR, ms_app, toList_some, toList_none, if_true, if_false, true_and, and_true, cond_true, sm0, sm1, sm1l, sm2, lc_lt, lc_gt, lc_eq, Int.toNat_natCast, Int.reduceToNat, Nat.reduceAdd, Nat.reduceEqDiff, Int.reduceLT, Int.reduceEq, Int.reduceNeg, Int.reduceAdd, Int.reduceMul, Nat.reduceMul, ms_n, ms_i, ms_l, ms_p, PX]
    refine At.blk rfl rfl rfl fun sx => ?_
    simp (decide := true) only [RR, ms_app, toList_some, toList_none, if_true, if_false, true_and, and_true, cond_true, sm0, sm1, sm1l, sm2, lc_lt, lc_gt, lc_eq, Int.toNat_natCast, Int.reduceToNat, Nat.reduceAdd, Nat.reduceEqDiff, Int.reduceLT, Int.reduceEq, Int.reduceNeg, Int.reduceAdd, Int.reduceMul, Nat.reduceMul, ms_n, ms_i, ms_l, ms_p, PX]
    exact h0 hh
theorem x_findSaying {p n : Nat} (hF : Fix σ) (hC : CtV C) (hp : p < C.1) (hcx : CtX σ C) (hw : SkV C w) (hsx : SkX σ 28 C w) (hn : n ≤ 20) (h9 : w.1 + n ≤ 999) (hK : ∀ σ', Fr xrL xrT σ σ' → σ' 33 7 = (sayB C w p n 21).1 → σ' 33 8 = (sayB C w p n 21).2 → K none σ') : Mt (d + 6) 20 [.inr (.inr 33), .inl (p : Int), .inl (n : Int)] σ K := by
  refine Mt.go (lv := [some (.inr (.inr 33)), some (.inl (p : Int)), some (.inl (n : Int)), none, none, none, none]) rfl rfl rfl ?_
  have n7 := hC.1
  have w0 := hw.1
  refine At.blk rfl rfl rfl fun sx => ?_
  simp (decide := true) only [RR, ms_app, toList_some, toList_none, if_true, if_false, true_and, and_true, cond_true, sm0, sm1, sm1l, sm2, lc_lt, lc_gt, lc_eq, Int.toNat_natCast, Int.reduceToNat, Nat.reduceAdd, Nat.reduceEqDiff, Int.reduceLT, Int.reduceEq, Int.reduceNeg, Int.reduceAdd, Int.reduceMul, Nat.reduceMul, ms_n, ms_i, ms_l, ms_p, PX, fxX hF]
  refine cal_of rfl (x_trueNumbers hF hC hp hcx hw hsx (fun σ1 f1 => ?_))
  have hF1 := hF.fr f1 rfl
  simp (decide := true) only [RR, ms_app, toList_some, toList_none, if_true, if_false, true_and, and_true, cond_true, sm0, sm1, sm1l, sm2, lc_lt, lc_gt, lc_eq, Int.toNat_natCast, Int.reduceToNat, Nat.reduceAdd, Nat.reduceEqDiff, Int.reduceLT, Int.reduceEq, Int.reduceNeg, Int.reduceAdd, Int.reduceMul, Nat.reduceMul, ms_n, ms_i, ms_l, ms_p, PX]
  generalize hB : ((bitsN (truB C w p) 21 : Nat) : Int) = B
  have loop : ∀ m k : Nat, 21 - k = m → k ≤ 21 → ∀ (σ' : mM) (o5 o6 : Option mV), Fr xrL xrT σ σ' → σ' 33 7 = (sayB C w p n k).1 → (0 < k → σ' 33 8 = (sayB C w p n k).2) → At (d + 5) 20 1 [some (.inr (.inr 33)), some (.inl (p : Int)), some (.inl (n : Int)), some (.inl B), some (.inl (k : Int)), o5, o6] [] σ' K := by
    intro m
    induction m with
    | zero =>
      intro k hk hk2 σ' o5 o6 fr e7 e8
      obtain rfl : k = 21 := by omega
      refine At.blk rfl rfl rfl fun sx => ?_
      simp (decide := true) only [RR, ms_app, toList_some, toList_none, if_true, if_false, true_and, and_true, cond_true, sm0, sm1, sm1l, sm2, lc_lt, lc_gt, lc_eq, Int.toNat_natCast, Int.reduceToNat, Nat.reduceAdd, Nat.reduceEqDiff, Int.reduceLT, Int.reduceEq, Int.reduceNeg, Int.reduceAdd, Int.reduceMul, Nat.reduceMul, ms_n, ms_i, ms_l, ms_p, PX]
      refine At.blk rfl rfl rfl fun sx => ?_
      simp (decide := true) only [RR, ms_app, toList_some, toList_none, if_true, if_false, true_and, and_true, cond_true, sm0, sm1, sm1l, sm2, lc_lt, lc_gt, lc_eq, Int.toNat_natCast, Int.reduceToNat, Nat.reduceAdd, Nat.reduceEqDiff, Int.reduceLT, Int.reduceEq, Int.reduceNeg, Int.reduceAdd, Int.reduceMul, Nat.reduceMul, ms_n, ms_i, ms_l, ms_p, PX]
      exact hK σ' fr e7 (e8 (by decide))
    | succ m ih =>
      intro k hk hk2 σ' o5 o6 fr e7 e8
      have hF' := hF.fr fr rfl
      have w1 : Unit → w32 ((k : Int) + 1) = ((k + 1 : Nat) : Int) := fun _ => by rw [w32_small (by omega) (by omega)]; omega
      refine At.blk rfl rfl rfl fun sx => ?_
      simp (decide := true) only [RR, ms_app, toList_some, toList_none, if_true, if_false, true_and, and_true, cond_true, sm0, sm1, sm1l, sm2, lc_lt, lc_gt, lc_eq, Int.toNat_natCast, Int.reduceToNat, Nat.reduceAdd, Nat.reduceEqDiff, Int.reduceLT, Int.reduceEq, Int.reduceNeg, Int.reduceAdd, Int.reduceMul, Nat.reduceMul, ms_n, ms_i, ms_l, ms_p, PX, fxX hF']
      rw [if_neg (by omega)]
      refine cal_of rfl (x_skyCopy hF' rfl rfl (by omega) ?_)
      have f2 : Fr xrL xrT σ (skyC σ' 34 28) := fr.trans (Fr.copy.mono rfl)
      have hF2 := hF.fr f2 rfl
      simp (decide := true) only [RR, ms_app, toList_some, toList_none, if_true, if_false, true_and, and_true, cond_true, sm0, sm1, sm1l, sm2, lc_lt, lc_gt, lc_eq, Int.toNat_natCast, Int.reduceToNat, Nat.reduceAdd, Nat.reduceEqDiff, Int.reduceLT, Int.reduceEq, Int.reduceNeg, Int.reduceAdd, Int.reduceMul, Nat.reduceMul, ms_n, ms_i, ms_l, ms_p, PX, fxX hF2]
      refine ⟨⟨by omega, by omega⟩, ?_⟩
      have f3 : Fr xrL xrT σ (mj_set (skyC σ' 34 28) 36 p (k : Int)) := f2.setr rfl
      have s3 : SkX (mj_set (skyC σ' 34 28) 36 p (k : Int)) 34 C (actW w p (k : Int)) := ((hsx.xr fr).copy n7).act34 (Or.inl (by omega))
      have g7 : mj_set (skyC σ' 34 28) 36 p (k : Int) 33 7 = (sayB C w p n k).1 := e7
      have g8 : 0 < k → mj_set (skyC σ' 34 28) 36 p (k : Int) 33 8 = (sayB C w p n k).2 := e8
      have hwu : SkV C (actW w p (k : Int)) := actW_V hw (by omega)
      have un : (actW w p (k : Int)).1 = w.1 := rfl
      have seven : ∀ (σ5 : mM) (o5 o6 : Option mV), Fr xrL xrT σ σ5 → σ5 33 7 = (sayB C w p n (k + 1)).1 → σ5 33 8 = (sayB C w p n (k + 1)).2 → At (d + 5) 20 7 [some (.inr (.inr 33)), some (.inl (p : Int)), some (.inl (n : Int)), some (.inl B), some (.inl (k : Int)), o5, o6] [] σ5 K := by
        intro σ5 o5 o6 f5 h7 h8
        refine At.blk rfl rfl rfl fun sx => ?_
        simp (decide := true) only [RR, ms_app, toList_some, toList_none, if_true, if_false, true_and, and_true, cond_true, sm0, sm1, sm1l, sm2, lc_lt, lc_gt, lc_eq, Int.toNat_natCast, Int.reduceToNat, Nat.reduceAdd, Nat.reduceEqDiff, Int.reduceLT, Int.reduceEq, Int.reduceNeg, Int.reduceAdd, Int.reduceMul, Nat.reduceMul, ms_n, ms_i, ms_l, ms_p, PX, w1 ()]
        exact ih (k + 1) (by omega) (by omega) σ5 o5 o6 f5 h7 (fun _ => h8)
      have sb := sayB_le (C := C) (w := w) (p := p) (n := n) k
      have five : ∀ (σ5 : mM) (z : Int), Fr xrL xrT σ σ5 → σ5 33 7 = (sayB C w p n k).1 → (0 < k → σ5 33 8 = (sayB C w p n k).2) → ((sayB C w p n k).1 = -1 ∧ z = 1 ∨ (sayB C w p n k).1 ≠ -1 ∧ z = 0) → ∀ o6, At (d + 5) 20 5 [some (.inr (.inr 33)), some (.inl (p : Int)), some (.inl (n : Int)), some (.inl B), some (.inl (k : Int)), some (.inl (rosN C (actW w p (k : Int)) n)), o6] [.inl z] σ5 K := by
        intro σ5 z f5 h7 h8 hz o6
        have hF5 := hF.fr f5 rfl
        have six : ∀ z : Int, ((sayB C w p n k).1 = -1 ∨ rosN C (actW w p (k : Int)) n < (sayB C w p n k).2 ∨ (rosN C (actW w p (k : Int)) n = (sayB C w p n k).2 ∧ truB C w p k = true ∧ truB C w p (sayB C w p n k).1.toNat = false)) → At (d + 5) 20 6 [some (.inr (.inr 33)), some (.inl (p : Int)), some (.inl (n : Int)), some (.inl B), some (.inl (k : Int)), some (.inl (rosN C (actW w p (k : Int)) n)), some (.inl z)] [] σ5 K := by
          intro z hc
          refine At.blk rfl rfl rfl fun sx => ?_
          simp (decide := true) only [RR, ms_app, toList_some, toList_none, if_true, if_false, true_and, and_true, cond_true, sm0, sm1, sm1l, sm2, lc_lt, lc_gt, lc_eq, Int.toNat_natCast, Int.reduceToNat, Nat.reduceAdd, Nat.reduceEqDiff, Int.reduceLT, Int.reduceEq, Int.reduceNeg, Int.reduceAdd, Int.reduceMul, Nat.reduceMul, ms_n, ms_i, ms_l, ms_p, PX]
          refine seven _ _ _ ((f5.set rfl).set rfl) ?_ ?_
          · rw [sayB, if_pos hc]; rfl
          · rw [sayB, if_pos hc]; rfl
        refine At.blk rfl rfl rfl fun sx => ?_
        simp (decide := true) only [RR, ms_app, toList_some, toList_none, if_true, if_false, true_and, and_true, cond_true, sm0, sm1, sm1l, sm2, lc_lt, lc_gt, lc_eq, Int.toNat_natCast, Int.reduceToNat, Nat.reduceAdd, Nat.reduceEqDiff, Int.reduceLT, Int.reduceEq, Int.reduceNeg, Int.reduceAdd, Int.reduceMul, Nat.reduceMul, ms_n, ms_i, ms_l, ms_p, PX, h7]
        rcases hz with ⟨hz, rfl⟩ | ⟨hz, rfl⟩
        · first | (rw [if_neg (by decide)]; exact six _ (Or.inl hz)) | exact six _ (Or.inl hz)
        · have kp : 0 < k := by omega
          have h8 := h8 kp
          rw [h8]
          first | rw [if_pos rfl] | skip
          by_cases c1 : rosN C (actW w p (k : Int)) n < (sayB C w p n k).2
          · rw [if_pos c1]; exact six _ (Or.inr (Or.inl c1))
          · rw [if_neg c1]
            have nope : ¬(rosN C (actW w p (k : Int)) n = (sayB C w p n k).2 ∧ truB C w p k = true ∧ truB C w p (sayB C w p n k).1.toNat = false) → At (d + 5) 20 7 [some (.inr (.inr 33)), some (.inl (p : Int)), some (.inl (n : Int)), some (.inl B), some (.inl (k : Int)), some (.inl (rosN C (actW w p (k : Int)) n)), some (.inl 0)] [] σ5 K := by
              intro c2
              have c3 : ¬((sayB C w p n k).1 = -1 ∨ rosN C (actW w p (k : Int)) n < (sayB C w p n k).2 ∨ (rosN C (actW w p (k : Int)) n = (sayB C w p n k).2 ∧ truB C w p k = true ∧ truB C w p (sayB C w p n k).1.toNat = false)) := by
                rintro (h | h | h)
                · exact hz h
                · exact c1 h
                · exact c2 h
              refine seven _ _ _ f5 ?_ ?_
              · rw [sayB, if_neg c3]; exact h7
              · rw [sayB, if_neg c3]; exact h8
            by_cases c2 : rosN C (actW w p (k : Int)) n = (sayB C w p n k).2
            · rw [if_pos c2]
              have sb : 0 ≤ (sayB C w p n k).1 ∧ (sayB C w p n k).1 < k := by omega
              have eN : (sayB C w p n k).1 = (((sayB C w p n k).1.toNat : Nat) : Int) := by omega
              rw [← hB, eN]
              refine cal_of rfl (x_isTruer (by omega) (by omega) (fun ht => ?_) (fun ht => ?_))
              · simp (decide := true) only [RR, ms_app, toList_some, toList_none, if_true, if_false, true_and, and_true, cond_true, sm0, sm1, sm1l, sm2, lc_lt, lc_gt, lc_eq, Int.toNat_natCast, Int.reduceToNat, Nat.reduceAdd, Nat.reduceEqDiff, Int.reduceLT, Int.reduceEq, Int.reduceNeg, Int.reduceAdd, Int.reduceMul, Nat.reduceMul, ms_n, ms_i, ms_l, ms_p, PX]
                rw [hB]
                exact six _ (Or.inr (Or.inr ⟨c2, ht⟩))
              · simp (decide := true) only [RR, ms_app, toList_some, toList_none, if_true, if_false, true_and, and_true, cond_true, sm0, sm1, sm1l, sm2, lc_lt, lc_gt, lc_eq, Int.toNat_natCast, Int.reduceToNat, Nat.reduceAdd, Nat.reduceEqDiff, Int.reduceLT, Int.reduceEq, Int.reduceNeg, Int.reduceAdd, Int.reduceMul, Nat.reduceMul, ms_n, ms_i, ms_l, ms_p, PX]
                rw [hB]
                exact nope (fun h => ht h.2)
            · rw [if_neg c2]
              exact nope (fun h => c2 h.1)
      have loop2 : ∀ m j : Nat, n - j = m → j ≤ n → ∀ σ4, Fr xrL xrT σ σ4 → SkX σ4 34 C (ntM C (actW w p (k : Int)) j) → σ4 33 7 = (sayB C w p n k).1 → (0 < k → σ4 33 8 = (sayB C w p n k).2) → At (d + 5) 20 2 [some (.inr (.inr 33)), some (.inl (p : Int)), some (.inl (n : Int)), some (.inl B), some (.inl (k : Int)), some (.inl (rosN C (actW w p (k : Int)) j)), some (.inl (j : Int))] [] σ4 K := by
        intro m
        induction m with
        | zero =>
          intro j hj hj2 σ4 f4 s4 h7 h8
          obtain rfl : j = n := by omega
          have hF4 := hF.fr f4 rfl
          refine At.blk rfl rfl rfl fun sx => ?_
          simp (decide := true) only [RR, ms_app, toList_some, toList_none, if_true, if_false, true_and, and_true, cond_true, sm0, sm1, sm1l, sm2, lc_lt, lc_gt, lc_eq, Int.toNat_natCast, Int.reduceToNat, Nat.reduceAdd, Nat.reduceEqDiff, Int.reduceLT, Int.reduceEq, Int.reduceNeg, Int.reduceAdd, Int.reduceMul, Nat.reduceMul, ms_n, ms_i, ms_l, ms_p, PX]
          rw [if_neg (by omega)]
          refine At.blk rfl rfl rfl fun sx => ?_
          simp (decide := true) only [RR, ms_app, toList_some, toList_none, if_true, if_false, true_and, and_true, cond_true, sm0, sm1, sm1l, sm2, lc_lt, lc_gt, lc_eq, Int.toNat_natCast, Int.reduceToNat, Nat.reduceAdd, Nat.reduceEqDiff, Int.reduceLT, Int.reduceEq, Int.reduceNeg, Int.reduceAdd, Int.reduceMul, Nat.reduceMul, ms_n, ms_i, ms_l, ms_p, PX, h7]
          by_cases c1 : (sayB C w p j k).1 = -1
          · rw [if_pos c1]
            exact five σ4 1 f4 h7 h8 (Or.inl ⟨c1, rfl⟩) _
          · rw [if_neg c1]
            refine At.blk rfl rfl rfl fun sx => ?_
            simp (decide := true) only [RR, ms_app, toList_some, toList_none, if_true, if_false, true_and, and_true, cond_true, sm0, sm1, sm1l, sm2, lc_lt, lc_gt, lc_eq, Int.toNat_natCast, Int.reduceToNat, Nat.reduceAdd, Nat.reduceEqDiff, Int.reduceLT, Int.reduceEq, Int.reduceNeg, Int.reduceAdd, Int.reduceMul, Nat.reduceMul, ms_n, ms_i, ms_l, ms_p, PX]
            exact five σ4 0 f4 h7 h8 (Or.inr ⟨c1, rfl⟩) _
        | succ m ih2 =>
          intro j hj hj2 σ4 f4 s4 h7 h8
          have hF4 := hF.fr f4 rfl
          have c4 := hcx.xr f4
          have wn := ntM_night (C := C) (w := actW w p (k : Int)) j
          have hwk := ntM_V hwu j (by omega)
          have b4 := rosN_le (w := actW w p (k : Int)) hC j
          have b5 := roseP_le (w := ntM C (actW w p (k : Int)) j) hC
          have w2 : Unit → w32 ((j : Int) + 1) = ((j + 1 : Nat) : Int) := fun _ => by rw [w32_small (by omega) (by omega)]; omega
          refine At.blk rfl rfl rfl fun sx => ?_
          simp (decide := true) only [RR, ms_app, toList_some, toList_none, if_true, if_false, true_and, and_true, cond_true, sm0, sm1, sm1l, sm2, lc_lt, lc_gt, lc_eq, Int.toNat_natCast, Int.reduceToNat, Nat.reduceAdd, Nat.reduceEqDiff, Int.reduceLT, Int.reduceEq, Int.reduceNeg, Int.reduceAdd, Int.reduceMul, Nat.reduceMul, ms_n, ms_i, ms_l, ms_p, PX, fxX hF4]
          rw [if_pos (by omega)]
          refine cal_of rfl (x_foresee34 hF4 hC hwk c4 s4 (fun σ5 f5 hE h5 => ?_))
          have hF5 := hF4.fr f5 rfl
          simp (decide := true) only [RR, ms_app, toList_some, toList_none, if_true, if_false, true_and, and_true, cond_true, sm0, sm1, sm1l, sm2, lc_lt, lc_gt, lc_eq, Int.toNat_natCast, Int.reduceToNat, Nat.reduceAdd, Nat.reduceEqDiff, Int.reduceLT, Int.reduceEq, Int.reduceNeg, Int.reduceAdd, Int.reduceMul, Nat.reduceMul, ms_n, ms_i, ms_l, ms_p, PX, fxX hF5]
          refine cal_of rfl (x_pass34 hF5 hC hwk (c4.xw f5) (s4.xw34 f5) (fun p hp => (h5 p hp).2.2) (fun σ6 f6 s6 => ?_))
          simp (decide := true) only [RR, ms_app, toList_some, toList_none, if_true, if_false, true_and, and_true, cond_true, sm0, sm1, sm1l, sm2, lc_lt, lc_gt, lc_eq, Int.toNat_natCast, Int.reduceToNat, Nat.reduceAdd, Nat.reduceEqDiff, Int.reduceLT, Int.reduceEq, Int.reduceNeg, Int.reduceAdd, Int.reduceMul, Nat.reduceMul, ms_n, ms_i, ms_l, ms_p, PX, w2 ()]
          rw [nxC_eq (by omega)] at s6
          rw [w32_small (by omega) (by omega)]
          exact ih2 (j + 1) (by omega) (by omega) σ6 ((f4.trans (f5.mono rfl)).trans (f6.mono rfl)) s6 ((f6 33 7 rfl).trans ((f5 33 7 rfl).trans h7)) (fun h => (f6 33 8 rfl).trans ((f5 33 8 rfl).trans (h8 h)))
      exact loop2 n 0 rfl (by omega) _ f3 s3 g7 g8
  exact loop 21 0 rfl (by omega) _ none none (f1.set rfl) rfl (fun h => absurd h (by decide))
theorem x_say {a n b : Int} (hF : Fix σ) (hW : Wrl σ C w l) (hK : ∀ σ', Fr xrL xrT σ σ' → K (some (.inl (sayV C w a n b))) σ') : Mt (d + 7) 118 [.inr (.inr 0), .inl a, .inl n, .inl b] σ K := by
  refine Mt.go (lv := [some (.inr (.inr 0)), some (.inl a), some (.inl n), some (.inl b)]) rfl rfl rfl ?_
  obtain ⟨hC, hcx, hcm, hw, hsx, hsm, hkx, hkm, hkv, h9⟩ := hW
  have n7 := hC.1
  have en : σ 28 2 = w.1 := hsx.1
  unfold sayV at hK
  have no : ¬((0 ≤ a ∧ a < C.1) ∧ (1 ≤ n ∧ n ≤ 20 ∧ w.1 + n ≤ 999) ∧ (0 ≤ b ∧ b ≤ 1)) → At (d + 6) 118 1 [some (.inr (.inr 0)), some (.inl a), some (.inl n), some (.inl b)] [] σ K := by
    intro h
    rw [if_neg h] at hK
    refine At.blk rfl rfl rfl fun sx => ?_
    simp (decide := true) only [RR, ms_app, toList_some, toList_none, if_true, if_false, true_and, and_true, cond_true, sm0, sm1, sm1l, sm2, lc_lt, lc_gt, lc_eq, Int.toNat_natCast, Int.reduceToNat, Nat.reduceAdd, Nat.reduceEqDiff, Int.reduceLT, Int.reduceEq, Int.reduceNeg, Int.reduceAdd, Int.reduceMul, Nat.reduceMul, ms_n, ms_i, ms_l, ms_p, PX]
    exact hK σ Fr.same
  refine At.blk rfl rfl rfl fun sx => ?_
  simp (decide := true) only [RR, ms_app, toList_some, toList_none, if_true, if_false, true_and, and_true, cond_true, sm0, sm1, sm1l, sm2, lc_lt, lc_gt, lc_eq, Int.toNat_natCast, Int.reduceToNat, Nat.reduceAdd, Nat.reduceEqDiff, Int.reduceLT, Int.reduceEq, Int.reduceNeg, Int.reduceAdd, Int.reduceMul, Nat.reduceMul, ms_n, ms_i, ms_l, ms_p, PX, fxX hF]
  refine cal_of rfl (x_holds3 (fun hh => ?_) (fun hh => ?_))
  · rw [hcx.1] at hh
    simp (decide := true) only [RR, ms_app, toList_some, toList_none, if_true, if_false, true_and, and_true, cond_true, sm0, sm1, sm1l, sm2, lc_lt, lc_gt, lc_eq, Int.toNat_natCast, Int.reduceToNat, Nat.reduceAdd, Nat.reduceEqDiff, Int.reduceLT, Int.reduceEq, Int.reduceNeg, Int.reduceAdd, Int.reduceMul, Nat.reduceMul, ms_n, ms_i, ms_l, ms_p, PX, fxX hF]
    refine cal_of rfl (x_canCome hF (by omega) (by decide) (fun h1 => ?_) (fun h1 => ?_))
    · rw [en] at h1
      simp (decide := true) only [RR, ms_app, toList_some, toList_none, if_true, if_false, true_and, and_true, cond_true, sm0, sm1, sm1l, sm2, lc_lt, lc_gt, lc_eq, Int.toNat_natCast, Int.reduceToNat, Nat.reduceAdd, Nat.reduceEqDiff, Int.reduceLT, Int.reduceEq, Int.reduceNeg, Int.reduceAdd, Int.reduceMul, Nat.reduceMul, ms_n, ms_i, ms_l, ms_p, PX]
      by_cases b0 : b < 0
      · rw [if_pos b0]; exact no (by omega)
      · rw [if_neg b0]
        by_cases b1 : 1 < b
        · rw [if_pos b1]; exact no (by omega)
        · rw [if_neg b1]
          obtain ⟨p, rfl⟩ := Int.eq_ofNat_of_zero_le hh.1
          obtain ⟨n, rfl⟩ := Int.eq_ofNat_of_zero_le (show 0 ≤ n by omega)
          rw [Int.toNat_natCast, Int.toNat_natCast, if_pos (by omega)] at hK
          refine At.blk rfl rfl rfl fun sx => ?_
          simp (decide := true) only [RR, ms_app, toList_some, toList_none, if_true, if_false, true_and, and_true, cond_true, sm0, sm1, sm1l, sm2, lc_lt, lc_gt, lc_eq, Int.toNat_natCast, Int.reduceToNat, Nat.reduceAdd, Nat.reduceEqDiff, Int.reduceLT, Int.reduceEq, Int.reduceNeg, Int.reduceAdd, Int.reduceMul, Nat.reduceMul, ms_n, ms_i, ms_l, ms_p, PX, fxX hF]
          refine cal_of rfl (x_findSaying hF hC (by omega) hcx hw hsx (by omega) (by omega) (fun σ1 f1 e7 e8 => ?_))
          have hF1 := hF.fr f1 rfl
          simp (decide := true) only [RR, ms_app, toList_some, toList_none, if_true, if_false, true_and, and_true, cond_true, sm0, sm1, sm1l, sm2, lc_lt, lc_gt, lc_eq, Int.toNat_natCast, Int.reduceToNat, Nat.reduceAdd, Nat.reduceEqDiff, Int.reduceLT, Int.reduceEq, Int.reduceNeg, Int.reduceAdd, Int.reduceMul, Nat.reduceMul, ms_n, ms_i, ms_l, ms_p, PX, fxX hF1, e7]
          by_cases b2 : b = 0
          · rw [if_pos b2] at hK ⊢
            refine At.blk rfl rfl rfl fun sx => ?_
            simp (decide := true) only [RR, ms_app, toList_some, toList_none, if_true, if_false, true_and, and_true, cond_true, sm0, sm1, sm1l, sm2, lc_lt, lc_gt, lc_eq, Int.toNat_natCast, Int.reduceToNat, Nat.reduceAdd, Nat.reduceEqDiff, Int.reduceLT, Int.reduceEq, Int.reduceNeg, Int.reduceAdd, Int.reduceMul, Nat.reduceMul, ms_n, ms_i, ms_l, ms_p, PX]
            exact hK σ1 f1
          · rw [if_neg b2] at hK ⊢
            refine At.blk rfl rfl rfl fun sx => ?_
            simp (decide := true) only [RR, ms_app, toList_some, toList_none, if_true, if_false, true_and, and_true, cond_true, sm0, sm1, sm1l, sm2, lc_lt, lc_gt, lc_eq, Int.toNat_natCast, Int.reduceToNat, Nat.reduceAdd, Nat.reduceEqDiff, Int.reduceLT, Int.reduceEq, Int.reduceNeg, Int.reduceAdd, Int.reduceMul, Nat.reduceMul, ms_n, ms_i, ms_l, ms_p, PX, fxX hF1, e8]
            refine At.blk rfl rfl rfl fun sx => ?_
            simp (decide := true) only [RR, ms_app, toList_some, toList_none, if_true, if_false, true_and, and_true, cond_true, sm0, sm1, sm1l, sm2, lc_lt, lc_gt, lc_eq, Int.toNat_natCast, Int.reduceToNat, Nat.reduceAdd, Nat.reduceEqDiff, Int.reduceLT, Int.reduceEq, Int.reduceNeg, Int.reduceAdd, Int.reduceMul, Nat.reduceMul, ms_n, ms_i, ms_l, ms_p, PX]
            exact hK σ1 f1
    · rw [en] at h1
      simp (decide := true) only [RR, ms_app, toList_some, toList_none, if_true, if_false, true_and, and_true, cond_true, sm0, sm1, sm1l, sm2, lc_lt, lc_gt, lc_eq, Int.toNat_natCast, Int.reduceToNat, Nat.reduceAdd, Nat.reduceEqDiff, Int.reduceLT, Int.reduceEq, Int.reduceNeg, Int.reduceAdd, Int.reduceMul, Nat.reduceMul, ms_n, ms_i, ms_l, ms_p, PX]
      exact no (by omega)
  · rw [hcx.1] at hh
    simp (decide := true) only [RR, ms_app, toList_some, toList_none, if_true, if_false, true_and, and_true, cond_true, sm0, sm1, sm1l, sm2, lc_lt, lc_gt, lc_eq, Int.toNat_natCast, Int.reduceToNat, Nat.reduceAdd, Nat.reduceEqDiff, Int.reduceLT, Int.reduceEq, Int.reduceNeg, Int.reduceAdd, Int.reduceMul, Nat.reduceMul, ms_n, ms_i, ms_l, ms_p, PX]
    exact no (by omega)
theorem m_say {a n b : Int} (hF : Fix σ) (hW : Wrl σ C w l) (h53 : σ 146 53 = 0) (hK : ∀ σ', Fr mrL mrT σ σ' → K (some (.inl (sayV C w a n b))) σ') : Mt (d + 12) 212 [.inr (.inr 146), .inl a, .inl n, .inl b] σ K := by
  refine Mt.go (lv := [some (.inr (.inr 146)), some (.inl a), some (.inl n), some (.inl b), none, none, none, none, none, none]) rfl rfl rfl ?_
  obtain ⟨hC, hcx, hcm, hw, hsx, hsm, hkx, hkm, hkv, h9⟩ := hW
  have n7 := hC.1
  have em : σ 182 0 = w.1 := hsm.1
  unfold sayV at hK
  have no : ¬((0 ≤ a ∧ a < C.1) ∧ (1 ≤ n ∧ n ≤ 20 ∧ w.1 + n ≤ 999) ∧ (0 ≤ b ∧ b ≤ 1)) → At (d + 11) 212 1 [some (.inr (.inr 146)), some (.inl a), some (.inl n), some (.inl b), none, none, none, none, none, none] [] σ K := by
    intro h
    rw [if_neg h] at hK
    refine At.blk rfl rfl rfl fun sx => ?_
    simp (decide := true) only [RR, ms_app, toList_some, toList_none, if_true, if_false, true_and, and_true, cond_true, sm0, sm1, sm1l, sm2, lc_lt, lc_gt, lc_eq, Int.toNat_natCast, Int.reduceToNat, Nat.reduceAdd, Nat.reduceEqDiff, Int.reduceLT, Int.reduceEq, Int.reduceNeg, Int.reduceAdd, Int.reduceMul, Nat.reduceMul, ms_n, ms_i, ms_l, ms_p, PM]
    exact hK σ Fr.same
  refine At.blk rfl rfl rfl fun sx => ?_
  simp (decide := true) only [RR, ms_app, toList_some, toList_none, if_true, if_false, true_and, and_true, cond_true, sm0, sm1, sm1l, sm2, lc_lt, lc_gt, lc_eq, Int.toNat_natCast, Int.reduceToNat, Nat.reduceAdd, Nat.reduceEqDiff, Int.reduceLT, Int.reduceEq, Int.reduceNeg, Int.reduceAdd, Int.reduceMul, Nat.reduceMul, ms_n, ms_i, ms_l, ms_p, PM, fxM hF]
  refine cal_of rfl (m_isPart hF (by rw [hcm.1]; omega) (fun hh => ?_) (fun hh => ?_))
  · rw [hcm.1] at hh
    simp (decide := true) only [RR, ms_app, toList_some, toList_none, if_true, if_false, true_and, and_true, cond_true, sm0, sm1, sm1l, sm2, lc_lt, lc_gt, lc_eq, Int.toNat_natCast, Int.reduceToNat, Nat.reduceAdd, Nat.reduceEqDiff, Int.reduceLT, Int.reduceEq, Int.reduceNeg, Int.reduceAdd, Int.reduceMul, Nat.reduceMul, ms_n, ms_i, ms_l, ms_p, PM]
    refine cal_of rfl (m_isAhead hF (by omega) (by decide) (by decide) (fun h1 => ?_) (fun h1 => ?_))
    · rw [em] at h1
      simp (decide := true) only [RR, ms_app, toList_some, toList_none, if_true, if_false, true_and, and_true, cond_true, sm0, sm1, sm1l, sm2, lc_lt, lc_gt, lc_eq, Int.toNat_natCast, Int.reduceToNat, Nat.reduceAdd, Nat.reduceEqDiff, Int.reduceLT, Int.reduceEq, Int.reduceNeg, Int.reduceAdd, Int.reduceMul, Nat.reduceMul, ms_n, ms_i, ms_l, ms_p, PM]
      refine cal_of rfl (m_isIn ?_)
      simp (decide := true) only [RR, ms_app, toList_some, toList_none, if_true, if_false, true_and, and_true, cond_true, sm0, sm1, sm1l, sm2, lc_lt, lc_gt, lc_eq, Int.toNat_natCast, Int.reduceToNat, Nat.reduceAdd, Nat.reduceEqDiff, Int.reduceLT, Int.reduceEq, Int.reduceNeg, Int.reduceAdd, Int.reduceMul, Nat.reduceMul, ms_n, ms_i, ms_l, ms_p, PM]
      by_cases b0 : 0 ≤ b ∧ b ≤ 1
      · rw [if_pos b0, if_neg (by decide)]
        obtain ⟨p, rfl⟩ := Int.eq_ofNat_of_zero_le hh.1
        obtain ⟨n, rfl⟩ := Int.eq_ofNat_of_zero_le (show 0 ≤ n by omega)
        have hp : p < C.1 := by omega
        rw [Int.toNat_natCast, Int.toNat_natCast, if_pos (by omega)] at hK
        have i1 : Unit → w32 (4 * (p : Int)) = ((4 * p : Nat) : Int) := fun _ => by rw [w32_small (by omega) (by omega)]; omega
        have i2 : Unit → w32 (4 + ((4 * p : Nat) : Int)) = ((4 + 4 * p : Nat) : Int) := fun _ => by rw [w32_small (by omega) (by omega)]; omega
        refine At.blk rfl rfl rfl fun sx => ?_
        simp (decide := true) only [RR, ms_app, toList_some, toList_none, if_true, if_false, true_and, and_true, cond_true, sm0, sm1, sm1l, sm2, lc_lt, lc_gt, lc_eq, Int.toNat_natCast, Int.reduceToNat, Nat.reduceAdd, Nat.reduceEqDiff, Int.reduceLT, Int.reduceEq, Int.reduceNeg, Int.reduceAdd, Int.reduceMul, Nat.reduceMul, ms_n, ms_i, ms_l, ms_p, PM]
        refine cal_of rfl (m_putsAside hF (fun σ1 t1 e1 z1 _ => ?_))
        have hF1 := hF.fr t1.1 rfl
        simp (decide := true) only [RR, ms_app, toList_some, toList_none, if_true, if_false, true_and, and_true, cond_true, sm0, sm1, sm1l, sm2, lc_lt, lc_gt, lc_eq, Int.toNat_natCast, Int.reduceToNat, Nat.reduceAdd, Nat.reduceEqDiff, Int.reduceLT, Int.reduceEq, Int.reduceNeg, Int.reduceAdd, Int.reduceMul, Nat.reduceMul, ms_n, ms_i, ms_l, ms_p, PM]
        have loop : ∀ m k : Nat, 21 - k = m → k ≤ 21 → ∀ (σ' : mM) (o8 o9 : Option mV) (ib few : Int), Th σ σ' → SkM σ' C w → σ' 146 54 = 0 → (0 < k → few = (sayB C w p n k).2 ∧ ib = (if truB C w p (sayB C w p n k).1.toNat = true then 1 else 0)) → At (d + 11) 212 3 [some (.inr (.inr 146)), some (.inl (p : Int)), some (.inl (n : Int)), some (.inl b), some (.inl (sayB C w p n k).1), some (.inl few), some (.inl ib), some (.inl (k : Int)), o8, o9] [] σ' K := by
          intro m
          induction m with
          | zero =>
            intro k hk hk2 σ' o8 o9 ib few t s z hf
            obtain rfl : k = 21 := by omega
            have hF' := hF.fr t.1 rfl
            obtain ⟨hf, -⟩ := hf (by decide)
            refine At.blk rfl rfl rfl fun sx => ?_
            simp (decide := true) only [RR, ms_app, toList_some, toList_none, if_true, if_false, true_and, and_true, cond_true, sm0, sm1, sm1l, sm2, lc_lt, lc_gt, lc_eq, Int.toNat_natCast, Int.reduceToNat, Nat.reduceAdd, Nat.reduceEqDiff, Int.reduceLT, Int.reduceEq, Int.reduceNeg, Int.reduceAdd, Int.reduceMul, Nat.reduceMul, ms_n, ms_i, ms_l, ms_p, PM]
            refine At.blk rfl rfl rfl fun sx => ?_
            simp (decide := true) only [RR, ms_app, toList_some, toList_none, if_true, if_false, true_and, and_true, cond_true, sm0, sm1, sm1l, sm2, lc_lt, lc_gt, lc_eq, Int.toNat_natCast, Int.reduceToNat, Nat.reduceAdd, Nat.reduceEqDiff, Int.reduceLT, Int.reduceEq, Int.reduceNeg, Int.reduceAdd, Int.reduceMul, Nat.reduceMul, ms_n, ms_i, ms_l, ms_p, PM]
            refine cal_of rfl (m_takesBack hF' t h53 (fun σ3 f3 _ => ?_))
            simp (decide := true) only [RR, ms_app, toList_some, toList_none, if_true, if_false, true_and, and_true, cond_true, sm0, sm1, sm1l, sm2, lc_lt, lc_gt, lc_eq, Int.toNat_natCast, Int.reduceToNat, Nat.reduceAdd, Nat.reduceEqDiff, Int.reduceLT, Int.reduceEq, Int.reduceNeg, Int.reduceAdd, Int.reduceMul, Nat.reduceMul, ms_n, ms_i, ms_l, ms_p, PM]
            by_cases b2 : b = 0
            · rw [if_pos b2] at hK ⊢
              refine At.blk rfl rfl rfl fun sx => ?_
              simp (decide := true) only [RR, ms_app, toList_some, toList_none, if_true, if_false, true_and, and_true, cond_true, sm0, sm1, sm1l, sm2, lc_lt, lc_gt, lc_eq, Int.toNat_natCast, Int.reduceToNat, Nat.reduceAdd, Nat.reduceEqDiff, Int.reduceLT, Int.reduceEq, Int.reduceNeg, Int.reduceAdd, Int.reduceMul, Nat.reduceMul, ms_n, ms_i, ms_l, ms_p, PM]
              exact hK σ3 f3
            · rw [if_neg b2] at hK ⊢
              refine At.blk rfl rfl rfl fun sx => ?_
              simp (decide := true) only [RR, ms_app, toList_some, toList_none, if_true, if_false, true_and, and_true, cond_true, sm0, sm1, sm1l, sm2, lc_lt, lc_gt, lc_eq, Int.toNat_natCast, Int.reduceToNat, Nat.reduceAdd, Nat.reduceEqDiff, Int.reduceLT, Int.reduceEq, Int.reduceNeg, Int.reduceAdd, Int.reduceMul, Nat.reduceMul, ms_n, ms_i, ms_l, ms_p, PM]
              refine At.blk rfl rfl rfl fun sx => ?_
              simp (decide := true) only [RR, ms_app, toList_some, toList_none, if_true, if_false, true_and, and_true, cond_true, sm0, sm1, sm1l, sm2, lc_lt, lc_gt, lc_eq, Int.toNat_natCast, Int.reduceToNat, Nat.reduceAdd, Nat.reduceEqDiff, Int.reduceLT, Int.reduceEq, Int.reduceNeg, Int.reduceAdd, Int.reduceMul, Nat.reduceMul, ms_n, ms_i, ms_l, ms_p, PM]
              rw [hf]
              exact hK σ3 f3
          | succ m ih =>
            intro k hk hk2 σ' o8 o9 ib few t s z hf
            have hF' := hF.fr t.1 rfl
            have sb := sayB_le (C := C) (w := w) (p := p) (n := n) k
            have w1 : Unit → w32 ((k : Int) + 1) = ((k + 1 : Nat) : Int) := fun _ => by rw [w32_small (by omega) (by omega)]; omega
            refine At.blk rfl rfl rfl fun sx => ?_
            simp (decide := true) only [RR, ms_app, toList_some, toList_none, if_true, if_false, true_and, and_true, cond_true, sm0, sm1, sm1l, sm2, lc_lt, lc_gt, lc_eq, Int.toNat_natCast, Int.reduceToNat, Nat.reduceAdd, Nat.reduceEqDiff, Int.reduceLT, Int.reduceEq, Int.reduceNeg, Int.reduceAdd, Int.reduceMul, Nat.reduceMul, ms_n, ms_i, ms_l, ms_p, PM]
            rw [if_neg (by omega)]
            refine cal_of rfl (m_isTrue hF' hC hp (by omega) (hcm.th t.1) hw s (fun σ2 f2 => ?_))
            have hF2 := hF'.fr f2 rfl
            have t2 := t.mw f2
            simp (decide := true) only [RR, ms_app, toList_some, toList_none, if_true, if_false, true_and, and_true, cond_true, sm0, sm1, sm1l, sm2, lc_lt, lc_gt, lc_eq, Int.toNat_natCast, Int.reduceToNat, Nat.reduceAdd, Nat.reduceEqDiff, Int.reduceLT, Int.reduceEq, Int.reduceNeg, Int.reduceAdd, Int.reduceMul, Nat.reduceMul, ms_n, ms_i, ms_l, ms_p, PM, fxM hF2, i1 (), i2 ()]
            refine ⟨⟨by omega, by omega⟩, ?_⟩
            have t3 := t2.put (k := 4 + 4 * p) (v := (k : Int)) (by omega)
            have hF3 := hF.fr t3.1 rfl
            have z3 : mj_set σ2 182 (4 + 4 * p) (k : Int) 146 54 = 0 := (f2 146 54 rfl).trans z
            refine cal_of rfl (m_nights1 hF3 hC (actW_V hw (by omega)) (by omega) (by show w.1 ≤ 1100; omega) t3 hcm (SkM.act (s.mw n7 f2)) (fun σ4 t4 s4 f4 c4 _ _ => ?_))
            have hF4 := hF.fr t4.1 rfl
            have c4 := c4 (by rw [z3]; decide) (by rw [z3]; decide)
            rw [z3, Int.zero_add] at c4
            simp (decide := true) only [RR, ms_app, toList_some, toList_none, if_true, if_false, true_and, and_true, cond_true, sm0, sm1, sm1l, sm2, lc_lt, lc_gt, lc_eq, Int.toNat_natCast, Int.reduceToNat, Nat.reduceAdd, Nat.reduceEqDiff, Int.reduceLT, Int.reduceEq, Int.reduceNeg, Int.reduceAdd, Int.reduceMul, Nat.reduceMul, ms_n, ms_i, ms_l, ms_p, PM, fxM hF4, c4]
            refine cal_of rfl (m_triesAnew hF4 t4 (fun σ5 f5 e5 z5 => ?_))
            have t5 := t4.again f5 e5
            have s5 : SkM σ5 C w := hsm.eq e5 n7
            simp (decide := true) only [RR, ms_app, toList_some, toList_none, if_true, if_false, true_and, and_true, cond_true, sm0, sm1, sm1l, sm2, lc_lt, lc_gt, lc_eq, Int.toNat_natCast, Int.reduceToNat, Nat.reduceAdd, Nat.reduceEqDiff, Int.reduceLT, Int.reduceEq, Int.reduceNeg, Int.reduceAdd, Int.reduceMul, Nat.reduceMul, ms_n, ms_i, ms_l, ms_p, PM]
            generalize hr : rosN C (actW w p (k : Int)) n = r at *
            have yes : ((sayB C w p n k).1 = -1 ∨ r < (sayB C w p n k).2 ∨ (r = (sayB C w p n k).2 ∧ truB C w p k = true ∧ truB C w p (sayB C w p n k).1.toNat = false)) → At (d + 11) 212 4 [some (.inr (.inr 146)), some (.inl (p : Int)), some (.inl (n : Int)), some (.inl b), some (.inl (sayB C w p n k).1), some (.inl few), some (.inl ib), some (.inl (k : Int)), some (.inl (if truB C w p k = true then 1 else 0)), some (.inl r)] [] σ5 K := by
              intro hc
              have e : sayB C w p n (k + 1) = ((k : Int), r) := by rw [sayB, hr, if_pos hc]
              refine At.blk rfl rfl rfl fun sx => ?_
              simp (decide := true) only [RR, ms_app, toList_some, toList_none, if_true, if_false, true_and, and_true, cond_true, sm0, sm1, sm1l, sm2, lc_lt, lc_gt, lc_eq, Int.toNat_natCast, Int.reduceToNat, Nat.reduceAdd, Nat.reduceEqDiff, Int.reduceLT, Int.reduceEq, Int.reduceNeg, Int.reduceAdd, Int.reduceMul, Nat.reduceMul, ms_n, ms_i, ms_l, ms_p, PM]
              refine At.blk rfl rfl rfl fun sx => ?_
              simp (decide := true) only [RR, ms_app, toList_some, toList_none, if_true, if_false, true_and, and_true, cond_true, sm0, sm1, sm1l, sm2, lc_lt, lc_gt, lc_eq, Int.toNat_natCast, Int.reduceToNat, Nat.reduceAdd, Nat.reduceEqDiff, Int.reduceLT, Int.reduceEq, Int.reduceNeg, Int.reduceAdd, Int.reduceMul, Nat.reduceMul, ms_n, ms_i, ms_l, ms_p, PM, w1 ()]
              have := ih (k + 1) (by omega) (by omega) σ5 (some (.inl (if truB C w p k = true then 1 else 0))) (some (.inl r)) (if truB C w p k = true then 1 else 0) r t5 s5 z5 (fun _ => by rw [e]; exact ⟨rfl, by rw [Int.toNat_natCast]⟩)
              rw [e] at this
              exact this
            have nay : ¬((sayB C w p n k).1 = -1 ∨ r < (sayB C w p n k).2 ∨ (r = (sayB C w p n k).2 ∧ truB C w p k = true ∧ truB C w p (sayB C w p n k).1.toNat = false)) → At (d + 11) 212 5 [some (.inr (.inr 146)), some (.inl (p : Int)), some (.inl (n : Int)), some (.inl b), some (.inl (sayB C w p n k).1), some (.inl few), some (.inl ib), some (.inl (k : Int)), some (.inl (if truB C w p k = true then 1 else 0)), some (.inl r)] [] σ5 K := by
              intro hc
              have e : sayB C w p n (k + 1) = sayB C w p n k := by rw [sayB, hr, if_neg hc]
              have kp : 0 < k := by
                rcases sb with ⟨_, sb⟩ | ⟨sb, _⟩
                · exact absurd (Or.inl sb) hc
                · exact sb
              refine At.blk rfl rfl rfl fun sx => ?_
              simp (decide := true) only [RR, ms_app, toList_some, toList_none, if_true, if_false, true_and, and_true, cond_true, sm0, sm1, sm1l, sm2, lc_lt, lc_gt, lc_eq, Int.toNat_natCast, Int.reduceToNat, Nat.reduceAdd, Nat.reduceEqDiff, Int.reduceLT, Int.reduceEq, Int.reduceNeg, Int.reduceAdd, Int.reduceMul, Nat.reduceMul, ms_n, ms_i, ms_l, ms_p, PM, w1 ()]
              have := ih (k + 1) (by omega) (by omega) σ5 (some (.inl (if truB C w p k = true then 1 else 0))) (some (.inl r)) ib few t5 s5 z5 (fun _ => by rw [e]; exact hf kp)
              rw [e] at this
              exact this
            by_cases c1 : (sayB C w p n k).1 = -1
            · rw [if_pos c1]; exact yes (Or.inl c1)
            · rw [if_neg c1]
              have kp : 0 < k := by omega
              obtain ⟨rfl, rfl⟩ := hf kp
              by_cases c2 : (sayB C w p n k).2 < r
              · rw [if_pos c2]; exact nay (by omega)
              · rw [if_neg c2]
                by_cases c3 : r = (sayB C w p n k).2
                · rw [if_pos c3]
                  by_cases c4 : truB C w p (sayB C w p n k).1.toNat = true
                  · rw [if_pos c4] at yes nay ⊢
                    have := nay (by
                      rintro (h | h | h)
                      · exact c1 h
                      · omega
                      · rw [c4] at h; exact absurd h.2.2 (by decide))
                    first | (rw [if_neg (by decide)]; exact this) | exact this
                  · rw [if_neg c4] at yes nay ⊢
                    by_cases c5 : truB C w p k = true
                    · rw [if_pos c5] at yes nay ⊢
                      have := yes (Or.inr (Or.inr ⟨c3, c5, by simpa using c4⟩))
                      first | (rw [if_pos rfl, if_neg (by decide)]; exact this) | (rw [if_pos rfl]; exact this) | (rw [if_neg (by decide)]; exact this) | exact this
                    · rw [if_neg c5] at yes nay ⊢
                      have := nay (by
                        rintro (h | h | h)
                        · exact c1 h
                        · omega
                        · exact c5 h.2.1)
                      first | (rw [if_pos rfl, if_pos rfl]; exact this) | (rw [if_pos rfl]; exact this) | exact this
                · rw [if_neg c3]; exact yes (Or.inr (Or.inl (by omega)))
        exact loop 21 0 rfl (by omega) σ1 none none 0 0 t1 (hsm.eq e1 n7) z1 (fun h => absurd h (by decide))
      · rw [if_neg b0, if_pos rfl]
        exact no (by omega)
    · rw [em] at h1
      simp (decide := true) only [RR, ms_app, toList_some, toList_none, if_true, if_false, true_and, and_true, cond_true, sm0, sm1, sm1l, sm2, lc_lt, lc_gt, lc_eq, Int.toNat_natCast, Int.reduceToNat, Nat.reduceAdd, Nat.reduceEqDiff, Int.reduceLT, Int.reduceEq, Int.reduceNeg, Int.reduceAdd, Int.reduceMul, Nat.reduceMul, ms_n, ms_i, ms_l, ms_p, PM]
      exact no (by omega)
  · rw [hcm.1] at hh
    simp (decide := true) only [RR, ms_app, toList_some, toList_none, if_true, if_false, true_and, and_true, cond_true, sm0, sm1, sm1l, sm2, lc_lt, lc_gt, lc_eq, Int.toNat_natCast, Int.reduceToNat, Nat.reduceAdd, Nat.reduceEqDiff, Int.reduceLT, Int.reduceEq, Int.reduceNeg, Int.reduceAdd, Int.reduceMul, Nat.reduceMul, ms_n, ms_i, ms_l, ms_p, PM]
    exact no (by omega)
end
theorem p_say {σ : mM} (h : Inv σ) (a n b : Int) (_ : inR a) (_ : inR n) (_ : inR b) : PairI Inv 118 212 [.inl a, .inl n, .inl b] σ := by
  obtain ⟨C, w, l, hW⟩ := h.wrl
  exact ro_pair (v := sayV C w a n b) h hW (x_say h.1 hW (fun σ' f => ⟨rfl, f.mono rfl⟩)) (fun σ1 h1 hW1 _ => m_say h1.1 hW1 h1.th0 (fun σ' f => ⟨rfl, f.mono rfl⟩))
