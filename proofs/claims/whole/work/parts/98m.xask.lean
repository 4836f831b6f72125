def askT : List (Nat × Nat) := (1, 1) :: (146, 1) :: (19, 2) :: (19, 3) :: (146, 7) :: (146, 8) :: scrT
theorem Inv.ask {σ σ1 : mM} (h : Inv σ) (f : Fr scrL askT σ σ1) (t1 : σ1 1 1 = 0) (t2 : σ1 146 1 = 0) (t3 : σ1 146 7 = σ1 19 2) (t4 : σ1 146 8 = σ1 19 3) : Inv σ1 := by
  obtain ⟨hF, hT, hR, hf, hZ, hP, hS, hC, hN, hk2, hU, hth⟩ := h
  refine ⟨hF.fr f rfl, ⟨by rw [t1, t2], by rw [t1]; omega, fun k hk => by rw [t1] at hk; omega⟩, hR.cg (f.row 148 rfl) (f.row 145 rfl), ⟨t3, t4⟩, hZ.cg (f 146 67 rfl) (f 0 13 rfl), hP.cg (f 146 99 rfl) (f 0 12 rfl) (f.row 217 rfl) (f.row 144 rfl), hS.cg (f 146 58 rfl) (f 31 1 rfl) (f.row 189 rfl) (f.row 32 rfl) (f 3 4 rfl), hC.cg (f.row 173 rfl) (f.row 3 rfl) (f.row 178 rfl) (f.row 4 rfl) (f.row 174 rfl) (f.row 176 rfl) (f.row 6 rfl) (f.row 9 rfl) (f.row 10 rfl) (f.row 8 rfl) (f.row 179 rfl) (f.row 180 rfl) (f.row 181 rfl), hN.cg (f.row 182 rfl) (f.row 28 rfl) (f.row 29 rfl) (f.row 30 rfl) (f 3 4 rfl), hk2.cg (f.row 182 rfl) (f.row 39 rfl) (f.row 40 rfl), hU.cg (f 146 65 rfl) (f 41 3 rfl) (f 146 66 rfl) (f 41 2 rfl) (f 3 4 rfl) (f.row 193 rfl) (fun q h1 h2 => ?_), by rw [f 146 53 rfl]; exact hth⟩
  exact f.hist rfl rfl h1 h2
/-- what a question tells of the part p -/
def qV (C : Ct) (w : Sk) (cs : List Int) (p : Nat) : Int := (evC C w (tolP C w) p cs []).headD 0
theorem qV_le {C : Ct} {w : Sk} {cs : List Int} {b : Bool} {p : Nat} (hC : CtV C) (hw : SkV C w) (hp : p < C.1) (hty : tys cs [] = some [b]) : (-1000000 ≤ qV C w cs p ∧ qV C w cs p ≤ 1000000) ∧ (b = true → qV C w cs p = 0 ∨ qV C w cs p = 1) := by
  have ht := tol_le (C := C) hw hp
  have hV := StV.ev (C := C) (w := w) (t := tolP C w) (p := p) (fun c _ _ => valC_le hC hw hp (by omega)) cs [] [b] [] trivial hty
  obtain ⟨v, s, e, h1, h2⟩ := hV.uncons
  have hV2 : StV [b] (v :: s) := by rw [← e]; exact hV
  unfold qV
  rw [e]
  refine ⟨hV2.top, fun hb => ?_⟩
  rw [if_pos hb] at h1
  exact h1
section
variable {d : Nat} {σ : mM} {K : Option mV → mM → Prop} {C : Ct} {w : Sk} {cs : List Int}
theorem x_answerTest {j : Nat} (hj : j < 3) (hF : Fix σ) (hC : CtV C) (hw : SkV C w) (hcx : CtX σ C) (hs : SkX σ 28 C w) (hE : EnX σ C w) (ht : ∀ p, p < C.1 → σ 26 p = tolP C w p) (hR : RlX σ 16 17 18 3 cs) (hty : tys cs [] = some [true]) (h4 : σ 19 4 = (kdW j : Int)) (hK : ∀ σ', Fr [22] [] σ σ' → K (some (.inr (.inl (ansN (j : Int) (qV C w cs) C.1)))) σ') : Mt (d + 4) 145 [.inr (.inr 0)] σ K := by
  refine Mt.go (lv := [some (.inr (.inr 0)), none, none, none, none]) rfl rfl rfl ?_
  have n7 := hC.1
  have loop : ∀ (m k : Nat), C.1 - k = m → k ≤ C.1 → ∀ σ', Fr [22] [] σ σ' → At (d + 3) 145 1 [some (.inr (.inr 0)), some (.inl (ansN 0 (qV C w cs) k)), some (.inl (ansN 1 (qV C w cs) k)), some (.inl (ansN 2 (qV C w cs) k)), some (.inl (k : Int))] [] σ' K := by
    intro m
    induction m with
    | zero =>
      intro k hk hk2 σ' fr
      obtain rfl : k = C.1 := by omega
      have hF' := hF.fr fr rfl
      have e34 : σ' 3 4 = (C.1 : Int) := (fr 3 4 rfl).trans hcx.1
      have e4 : σ' 19 4 = (kdW j : Int) := (fr 19 4 rfl).trans h4
      have fin := hK σ' fr
      refine At.blk rfl rfl rfl fun sx => ?_
      simp (decide := true) only [RR, ms_app, toList_some, toList_none, if_true, if_false, true_and, and_true, cond_true, sm0, sm1, sm1l, sm2, lc_lt, lc_gt, lc_eq, Int.toNat_natCast, Int.reduceToNat, Nat.reduceAdd, Nat.reduceEqDiff, Int.reduceLT, Int.reduceEq, Int.reduceNeg, Int.reduceAdd, Int.reduceMul, Nat.reduceMul, ms_n, ms_i, ms_l, ms_p, PX, fxX hF', e34]
      rw [if_neg (by omega)]
      refine At.blk rfl rfl rfl fun sx => ?_
      simp (decide := true) only [RR, ms_app, toList_some, toList_none, if_true, if_false, true_and, and_true, cond_true, sm0, sm1, sm1l, sm2, lc_lt, lc_gt, lc_eq, Int.toNat_natCast, Int.reduceToNat, Nat.reduceAdd, Nat.reduceEqDiff, Int.reduceLT, Int.reduceEq, Int.reduceNeg, Int.reduceAdd, Int.reduceMul, Nat.reduceMul, ms_n, ms_i, ms_l, ms_p, PX, fxX hF', e4]
      rcases (show j = 0 ∨ j = 1 ∨ j = 2 by omega) with rfl | rfl | rfl
      · rw [if_pos (by decide)]
        exact fin
      · rw [if_neg (by decide)]
        refine At.blk rfl rfl rfl fun sx => ?_
        simp (decide := true) only [RR, ms_app, toList_some, toList_none, if_true, if_false, true_and, and_true, cond_true, sm0, sm1, sm1l, sm2, lc_lt, lc_gt, lc_eq, Int.toNat_natCast, Int.reduceToNat, Nat.reduceAdd, Nat.reduceEqDiff, Int.reduceLT, Int.reduceEq, Int.reduceNeg, Int.reduceAdd, Int.reduceMul, Nat.reduceMul, ms_n, ms_i, ms_l, ms_p, PX, fxX hF', e4]
        refine At.blk rfl rfl rfl fun sx => ?_
        simp (decide := true) only [RR, ms_app, toList_some, toList_none, if_true, if_false, true_and, and_true, cond_true, sm0, sm1, sm1l, sm2, lc_lt, lc_gt, lc_eq, Int.toNat_natCast, Int.reduceToNat, Nat.reduceAdd, Nat.reduceEqDiff, Int.reduceLT, Int.reduceEq, Int.reduceNeg, Int.reduceAdd, Int.reduceMul, Nat.reduceMul, ms_n, ms_i, ms_l, ms_p, PX]
        exact fin
      · rw [if_neg (by decide)]
        refine At.blk rfl rfl rfl fun sx => ?_
        simp (decide := true) only [RR, ms_app, toList_some, toList_none, if_true, if_false, true_and, and_true, cond_true, sm0, sm1, sm1l, sm2, lc_lt, lc_gt, lc_eq, Int.toNat_natCast, Int.reduceToNat, Nat.reduceAdd, Nat.reduceEqDiff, Int.reduceLT, Int.reduceEq, Int.reduceNeg, Int.reduceAdd, Int.reduceMul, Nat.reduceMul, ms_n, ms_i, ms_l, ms_p, PX, fxX hF', e4]
        refine At.blk rfl rfl rfl fun sx => ?_
        simp (decide := true) only [RR, ms_app, toList_some, toList_none, if_true, if_false, true_and, and_true, cond_true, sm0, sm1, sm1l, sm2, lc_lt, lc_gt, lc_eq, Int.toNat_natCast, Int.reduceToNat, Nat.reduceAdd, Nat.reduceEqDiff, Int.reduceLT, Int.reduceEq, Int.reduceNeg, Int.reduceAdd, Int.reduceMul, Nat.reduceMul, ms_n, ms_i, ms_l, ms_p, PX]
        refine At.blk rfl rfl rfl fun sx => ?_
        simp (decide := true) only [RR, ms_app, toList_some, toList_none, if_true, if_false, true_and, and_true, cond_true, sm0, sm1, sm1l, sm2, lc_lt, lc_gt, lc_eq, Int.toNat_natCast, Int.reduceToNat, Nat.reduceAdd, Nat.reduceEqDiff, Int.reduceLT, Int.reduceEq, Int.reduceNeg, Int.reduceAdd, Int.reduceMul, Nat.reduceMul, ms_n, ms_i, ms_l, ms_p, PX]
        exact fin
    | succ m ih =>
      intro k hk hk2 σ' fr
      have hF' := hF.fr fr rfl
      have hp : k < C.1 := by omega
      have e34 : σ' 3 4 = (C.1 : Int) := (fr 3 4 rfl).trans hcx.1
      have tb := tol_le (C := C) hw hp
      obtain ⟨-, q01⟩ := qV_le hC hw hp hty
      have q01 := q01 rfl
      have w1 : Unit → w32 ((k : Int) + 1) = ((k + 1 : Nat) : Int) := fun _ => by rw [w32_small (by omega) (by omega)]; omega
      have cle := ansN_le (J := 2) (f := qV C w cs) (n := C.1) (fun i hi => (qV_le hC hw hi hty).1) k (by omega)
      refine At.blk rfl rfl rfl fun sx => ?_
      simp (decide := true) only [RR, ms_app, toList_some, toList_none, if_true, if_false, true_and, and_true, cond_true, sm0, sm1, sm1l, sm2, lc_lt, lc_gt, lc_eq, Int.toNat_natCast, Int.reduceToNat, Nat.reduceAdd, Nat.reduceEqDiff, Int.reduceLT, Int.reduceEq, Int.reduceNeg, Int.reduceAdd, Int.reduceMul, Nat.reduceMul, ms_n, ms_i, ms_l, ms_p, PX, fxX hF', e34]
      rw [if_pos (by omega)]
      refine cal_of rfl (x_valuec (C := C) (w := w) (t := tolP C w) (p := k) (r := 3) (cs := cs) (b := true) hF' hC hw hp e34 ((fr 6 k rfl).trans (hcx.2.2.1 k hp)) (hs.cg (fr.row 28 rfl) (fr.row 29 rfl) (fr.row 30 rfl)) (hE.cg (fr 21 4 rfl) (fr.row 23 rfl) (fr.row 24 rfl)) (fun _ => (fr 26 k rfl).trans (ht k hp)) (by omega) (by decide) (hR.cg (fr.row 16 rfl) (fr.row 17 rfl) (fr.row 18 rfl)) hty (fun σ2 f2 => ?_))
      have F2 := fr.trans f2
      have ev : (evC C w (tolP C w) k cs []).headD 0 = qV C w cs k := rfl
      rw [ev]
      have n0 := ansN_s (J := 0) (f := qV C w cs) (k := k)
      have n1 := ansN_s (J := 1) (f := qV C w cs) (k := k)
      have n2 := ansN_s (J := 2) (f := qV C w cs) (k := k)
      have nx := ih (k + 1) (by omega) (by omega) σ2 F2
      rw [n0, n1, n2] at nx
      unfold ansS at nx
      simp (decide := true) only [RR, ms_app, toList_some, toList_none, if_true, if_false, true_and, and_true, cond_true, sm0, sm1, sm1l, sm2, lc_lt, lc_gt, lc_eq, Int.toNat_natCast, Int.reduceToNat, Nat.reduceAdd, Nat.reduceEqDiff, Int.reduceLT, Int.reduceEq, Int.reduceNeg, Int.reduceAdd, Int.reduceMul, Nat.reduceMul, ms_n, ms_i, ms_l, ms_p, PX]
      generalize ansN 0 (qV C w cs) k = a0 at *
      generalize ansN 1 (qV C w cs) k = a1 at *
      generalize ansN 2 (qV C w cs) k = a2 at *
      generalize qV C w cs k = v at *
      rcases q01 with rfl | rfl
      · simp (decide := true) only [RR, ms_app, toList_some, toList_none, if_true, if_false, true_and, and_true, cond_true, sm0, sm1, sm1l, sm2, lc_lt, lc_gt, lc_eq, Int.toNat_natCast, Int.reduceToNat, Nat.reduceAdd, Nat.reduceEqDiff, Int.reduceLT, Int.reduceEq, Int.reduceNeg, Int.reduceAdd, Int.reduceMul, Nat.reduceMul, ms_n, ms_i, ms_l, ms_p, PX]
        refine At.blk rfl rfl rfl fun sx => ?_
        simp (decide := true) only [RR, ms_app, toList_some, toList_none, if_true, if_false, true_and, and_true, cond_true, sm0, sm1, sm1l, sm2, lc_lt, lc_gt, lc_eq, Int.toNat_natCast, Int.reduceToNat, Nat.reduceAdd, Nat.reduceEqDiff, Int.reduceLT, Int.reduceEq, Int.reduceNeg, Int.reduceAdd, Int.reduceMul, Nat.reduceMul, ms_n, ms_i, ms_l, ms_p, PX, w1 ()]
        simp (decide := true) only [if_true, if_false, false_and] at nx
        exact nx
      · have w2 : Unit → w32 (a2 + 1) = a2 + 1 := fun _ => w32_small (by omega) (by omega)
        simp (decide := true) only [if_true, if_false, true_and] at nx
        simp (decide := true) only [RR, ms_app, toList_some, toList_none, if_true, if_false, true_and, and_true, cond_true, sm0, sm1, sm1l, sm2, lc_lt, lc_gt, lc_eq, Int.toNat_natCast, Int.reduceToNat, Nat.reduceAdd, Nat.reduceEqDiff, Int.reduceLT, Int.reduceEq, Int.reduceNeg, Int.reduceAdd, Int.reduceMul, Nat.reduceMul, ms_n, ms_i, ms_l, ms_p, PX]
        by_cases c : a0 = -1
        · rw [if_pos c] at nx
          rw [if_pos c]
          refine At.blk rfl rfl rfl fun sx => ?_
          simp (decide := true) only [RR, ms_app, toList_some, toList_none, if_true, if_false, true_and, and_true, cond_true, sm0, sm1, sm1l, sm2, lc_lt, lc_gt, lc_eq, Int.toNat_natCast, Int.reduceToNat, Nat.reduceAdd, Nat.reduceEqDiff, Int.reduceLT, Int.reduceEq, Int.reduceNeg, Int.reduceAdd, Int.reduceMul, Nat.reduceMul, ms_n, ms_i, ms_l, ms_p, PX, w2 ()]
          refine At.blk rfl rfl rfl fun sx => ?_
          simp (decide := true) only [RR, ms_app, toList_some, toList_none, if_true, if_false, true_and, and_true, cond_true, sm0, sm1, sm1l, sm2, lc_lt, lc_gt, lc_eq, Int.toNat_natCast, Int.reduceToNat, Nat.reduceAdd, Nat.reduceEqDiff, Int.reduceLT, Int.reduceEq, Int.reduceNeg, Int.reduceAdd, Int.reduceMul, Nat.reduceMul, ms_n, ms_i, ms_l, ms_p, PX, w1 ()]
          exact nx
        · rw [if_neg c] at nx
          rw [if_neg c]
          refine At.blk rfl rfl rfl fun sx => ?_
          simp (decide := true) only [RR, ms_app, toList_some, toList_none, if_true, if_false, true_and, and_true, cond_true, sm0, sm1, sm1l, sm2, lc_lt, lc_gt, lc_eq, Int.toNat_natCast, Int.reduceToNat, Nat.reduceAdd, Nat.reduceEqDiff, Int.reduceLT, Int.reduceEq, Int.reduceNeg, Int.reduceAdd, Int.reduceMul, Nat.reduceMul, ms_n, ms_i, ms_l, ms_p, PX]
          refine At.blk rfl rfl rfl fun sx => ?_
          simp (decide := true) only [RR, ms_app, toList_some, toList_none, if_true, if_false, true_and, and_true, cond_true, sm0, sm1, sm1l, sm2, lc_lt, lc_gt, lc_eq, Int.toNat_natCast, Int.reduceToNat, Nat.reduceAdd, Nat.reduceEqDiff, Int.reduceLT, Int.reduceEq, Int.reduceNeg, Int.reduceAdd, Int.reduceMul, Nat.reduceMul, ms_n, ms_i, ms_l, ms_p, PX, w2 ()]
          refine At.blk rfl rfl rfl fun sx => ?_
          simp (decide := true) only [RR, ms_app, toList_some, toList_none, if_true, if_false, true_and, and_true, cond_true, sm0, sm1, sm1l, sm2, lc_lt, lc_gt, lc_eq, Int.toNat_natCast, Int.reduceToNat, Nat.reduceAdd, Nat.reduceEqDiff, Int.reduceLT, Int.reduceEq, Int.reduceNeg, Int.reduceAdd, Int.reduceMul, Nat.reduceMul, ms_n, ms_i, ms_l, ms_p, PX, w1 ()]
          exact nx
  refine At.blk rfl rfl rfl fun sx => ?_
  simp (decide := true) only [RR, ms_app, toList_some, toList_none, if_true, if_false, true_and, and_true, cond_true, sm0, sm1, sm1l, sm2, lc_lt, lc_gt, lc_eq, Int.toNat_natCast, Int.reduceToNat, Nat.reduceAdd, Nat.reduceEqDiff, Int.reduceLT, Int.reduceEq, Int.reduceNeg, Int.reduceAdd, Int.reduceMul, Nat.reduceMul, ms_n, ms_i, ms_l, ms_p, PX]
  exact loop C.1 0 rfl (by omega) σ Fr.same
theorem x_answerSum {j : Nat} (hj : 3 ≤ j ∧ j < 6) (hF : Fix σ) (hC : CtV C) (hw : SkV C w) (hcx : CtX σ C) (hs : SkX σ 28 C w) (hE : EnX σ C w) (ht : ∀ p, p < C.1 → σ 26 p = tolP C w p) (hR : RlX σ 16 17 18 3 cs) (hty : tys cs [] = some [false]) (h4 : σ 19 4 = (kdW j : Int)) (hK : ∀ σ', Fr [22] [] σ σ' → K (some (.inr (.inl (ansN (j : Int) (qV C w cs) C.1)))) σ') : Mt (d + 4) 146 [.inr (.inr 0)] σ K := by
  refine Mt.go (lv := [some (.inr (.inr 0)), none, none, none, none, none, none]) rfl rfl rfl ?_
  have n7 := hC.1
  have loop : ∀ (m k : Nat), C.1 - k = m → k ≤ C.1 → ∀ σ' o6, Fr [22] [] σ σ' → At (d + 3) 146 1 [some (.inr (.inr 0)), some (.inr (.inl (ansN 3 (qV C w cs) k))), none, some (.inl (ansN 4 (qV C w cs) k)), some (.inl (ansN 5 (qV C w cs) k)), some (.inl (k : Int)), o6] [] σ' K := by
    intro m
    induction m with
    | zero =>
      intro k hk hk2 σ' o6 fr
      obtain rfl : k = C.1 := by omega
      have hF' := hF.fr fr rfl
      have e34 : σ' 3 4 = (C.1 : Int) := (fr 3 4 rfl).trans hcx.1
      have e4 : σ' 19 4 = (kdW j : Int) := (fr 19 4 rfl).trans h4
      have fin := hK σ' fr
      refine At.blk rfl rfl rfl fun sx => ?_
      simp (decide := true) only [RR, ms_app, toList_some, toList_none, if_true, if_false, true_and, and_true, cond_true, sm0, sm1, sm1l, sm2, lc_lt, lc_gt, lc_eq, Int.toNat_natCast, Int.reduceToNat, Nat.reduceAdd, Nat.reduceEqDiff, Int.reduceLT, Int.reduceEq, Int.reduceNeg, Int.reduceAdd, Int.reduceMul, Nat.reduceMul, ms_n, ms_i, ms_l, ms_p, PX, fxX hF', e34]
      rw [if_neg (by omega)]
      refine At.blk rfl rfl rfl fun sx => ?_
      simp (decide := true) only [RR, ms_app, toList_some, toList_none, if_true, if_false, true_and, and_true, cond_true, sm0, sm1, sm1l, sm2, lc_lt, lc_gt, lc_eq, Int.toNat_natCast, Int.reduceToNat, Nat.reduceAdd, Nat.reduceEqDiff, Int.reduceLT, Int.reduceEq, Int.reduceNeg, Int.reduceAdd, Int.reduceMul, Nat.reduceMul, ms_n, ms_i, ms_l, ms_p, PX, fxX hF', e4]
      rcases (show j = 3 ∨ j = 4 ∨ j = 5 by omega) with rfl | rfl | rfl
      · rw [if_pos (by decide)]
        exact fin
      · rw [if_neg (by decide)]
        refine At.blk rfl rfl rfl fun sx => ?_
        simp (decide := true) only [RR, ms_app, toList_some, toList_none, if_true, if_false, true_and, and_true, cond_true, sm0, sm1, sm1l, sm2, lc_lt, lc_gt, lc_eq, Int.toNat_natCast, Int.reduceToNat, Nat.reduceAdd, Nat.reduceEqDiff, Int.reduceLT, Int.reduceEq, Int.reduceNeg, Int.reduceAdd, Int.reduceMul, Nat.reduceMul, ms_n, ms_i, ms_l, ms_p, PX, fxX hF', e4]
        refine At.blk rfl rfl rfl fun sx => ?_
        simp (decide := true) only [RR, ms_app, toList_some, toList_none, if_true, if_false, true_and, and_true, cond_true, sm0, sm1, sm1l, sm2, lc_lt, lc_gt, lc_eq, Int.toNat_natCast, Int.reduceToNat, Nat.reduceAdd, Nat.reduceEqDiff, Int.reduceLT, Int.reduceEq, Int.reduceNeg, Int.reduceAdd, Int.reduceMul, Nat.reduceMul, ms_n, ms_i, ms_l, ms_p, PX]
        exact fin
      · rw [if_neg (by decide)]
        refine At.blk rfl rfl rfl fun sx => ?_
        simp (decide := true) only [RR, ms_app, toList_some, toList_none, if_true, if_false, true_and, and_true, cond_true, sm0, sm1, sm1l, sm2, lc_lt, lc_gt, lc_eq, Int.toNat_natCast, Int.reduceToNat, Nat.reduceAdd, Nat.reduceEqDiff, Int.reduceLT, Int.reduceEq, Int.reduceNeg, Int.reduceAdd, Int.reduceMul, Nat.reduceMul, ms_n, ms_i, ms_l, ms_p, PX, fxX hF', e4]
        refine At.blk rfl rfl rfl fun sx => ?_
        simp (decide := true) only [RR, ms_app, toList_some, toList_none, if_true, if_false, true_and, and_true, cond_true, sm0, sm1, sm1l, sm2, lc_lt, lc_gt, lc_eq, Int.toNat_natCast, Int.reduceToNat, Nat.reduceAdd, Nat.reduceEqDiff, Int.reduceLT, Int.reduceEq, Int.reduceNeg, Int.reduceAdd, Int.reduceMul, Nat.reduceMul, ms_n, ms_i, ms_l, ms_p, PX]
        refine At.blk rfl rfl rfl fun sx => ?_
        simp (decide := true) only [RR, ms_app, toList_some, toList_none, if_true, if_false, true_and, and_true, cond_true, sm0, sm1, sm1l, sm2, lc_lt, lc_gt, lc_eq, Int.toNat_natCast, Int.reduceToNat, Nat.reduceAdd, Nat.reduceEqDiff, Int.reduceLT, Int.reduceEq, Int.reduceNeg, Int.reduceAdd, Int.reduceMul, Nat.reduceMul, ms_n, ms_i, ms_l, ms_p, PX]
        exact fin
    | succ m ih =>
      intro k hk hk2 σ' o6 fr
      have hF' := hF.fr fr rfl
      have hp : k < C.1 := by omega
      have e34 : σ' 3 4 = (C.1 : Int) := (fr 3 4 rfl).trans hcx.1
      have tb := tol_le (C := C) hw hp
      obtain ⟨qb, -⟩ := qV_le hC hw hp hty
      have w1 : Unit → w32 ((k : Int) + 1) = ((k + 1 : Nat) : Int) := fun _ => by rw [w32_small (by omega) (by omega)]; omega
      have cle := ansN_le (J := 3) (f := qV C w cs) (n := C.1) (fun i hi => (qV_le hC hw hi hty).1) k (by omega)
      refine At.blk rfl rfl rfl fun sx => ?_
      simp (decide := true) only [RR, ms_app, toList_some, toList_none, if_true, if_false, true_and, and_true, cond_true, sm0, sm1, sm1l, sm2, lc_lt, lc_gt, lc_eq, Int.toNat_natCast, Int.reduceToNat, Nat.reduceAdd, Nat.reduceEqDiff, Int.reduceLT, Int.reduceEq, Int.reduceNeg, Int.reduceAdd, Int.reduceMul, Nat.reduceMul, ms_n, ms_i, ms_l, ms_p, PX, fxX hF', e34]
      rw [if_pos (by omega)]
      refine cal_of rfl (x_valuec (C := C) (w := w) (t := tolP C w) (p := k) (r := 3) (cs := cs) (b := false) hF' hC hw hp e34 ((fr 6 k rfl).trans (hcx.2.2.1 k hp)) (hs.cg (fr.row 28 rfl) (fr.row 29 rfl) (fr.row 30 rfl)) (hE.cg (fr 21 4 rfl) (fr.row 23 rfl) (fr.row 24 rfl)) (fun _ => (fr 26 k rfl).trans (ht k hp)) (by omega) (by decide) (hR.cg (fr.row 16 rfl) (fr.row 17 rfl) (fr.row 18 rfl)) hty (fun σ2 f2 => ?_))
      have F2 := fr.trans f2
      have ev : (evC C w (tolP C w) k cs []).headD 0 = qV C w cs k := rfl
      rw [ev]
      have n3 := ansN_s (J := 3) (f := qV C w cs) (k := k)
      have n4 := ansN_s (J := 4) (f := qV C w cs) (k := k)
      have n5 := ansN_s (J := 5) (f := qV C w cs) (k := k)
      have nx := fun o6 => ih (k + 1) (by omega) (by omega) σ2 o6 F2
      rw [n3, n4, n5] at nx
      unfold ansS at nx
      generalize ansN 3 (qV C w cs) k = a3 at *
      generalize ansN 4 (qV C w cs) k = a4 at *
      generalize ansN 5 (qV C w cs) k = a5 at *
      generalize qV C w cs k = v at *
      have w2 : Unit → w64 (a3 + v) = a3 + v := fun _ => w64_small (by omega) (by omega)
      simp (decide := true) only [if_true, if_false] at nx
      simp (decide := true) only [RR, ms_app, toList_some, toList_none, if_true, if_false, true_and, and_true, cond_true, sm0, sm1, sm1l, sm2, lc_lt, lc_gt, lc_eq, Int.toNat_natCast, Int.reduceToNat, Nat.reduceAdd, Nat.reduceEqDiff, Int.reduceLT, Int.reduceEq, Int.reduceNeg, Int.reduceAdd, Int.reduceMul, Nat.reduceMul, ms_n, ms_i, ms_l, ms_p, PX, w2 ()]
      by_cases c : k = 0
      · rw [if_pos (Or.inl c), if_pos (Or.inl c)] at nx
        rw [if_pos (by omega)]
        refine At.blk rfl rfl rfl fun sx => ?_
        simp (decide := true) only [RR, ms_app, toList_some, toList_none, if_true, if_false, true_and, and_true, cond_true, sm0, sm1, sm1l, sm2, lc_lt, lc_gt, lc_eq, Int.toNat_natCast, Int.reduceToNat, Nat.reduceAdd, Nat.reduceEqDiff, Int.reduceLT, Int.reduceEq, Int.reduceNeg, Int.reduceAdd, Int.reduceMul, Nat.reduceMul, ms_n, ms_i, ms_l, ms_p, PX]
        rw [if_pos (by omega)]
        refine At.blk rfl rfl rfl fun sx => ?_
        simp (decide := true) only [RR, ms_app, toList_some, toList_none, if_true, if_false, true_and, and_true, cond_true, sm0, sm1, sm1l, sm2, lc_lt, lc_gt, lc_eq, Int.toNat_natCast, Int.reduceToNat, Nat.reduceAdd, Nat.reduceEqDiff, Int.reduceLT, Int.reduceEq, Int.reduceNeg, Int.reduceAdd, Int.reduceMul, Nat.reduceMul, ms_n, ms_i, ms_l, ms_p, PX, w1 ()]
        exact nx _
      · rw [if_neg (by omega)]
        refine At.blk rfl rfl rfl fun sx => ?_
        simp (decide := true) only [RR, ms_app, toList_some, toList_none, if_true, if_false, true_and, and_true, cond_true, sm0, sm1, sm1l, sm2, lc_lt, lc_gt, lc_eq, Int.toNat_natCast, Int.reduceToNat, Nat.reduceAdd, Nat.reduceEqDiff, Int.reduceLT, Int.reduceEq, Int.reduceNeg, Int.reduceAdd, Int.reduceMul, Nat.reduceMul, ms_n, ms_i, ms_l, ms_p, PX]
        refine cal_of rfl (x_imaxE ?_)
        simp (decide := true) only [RR, ms_app, toList_some, toList_none, if_true, if_false, true_and, and_true, cond_true, sm0, sm1, sm1l, sm2, lc_lt, lc_gt, lc_eq, Int.toNat_natCast, Int.reduceToNat, Nat.reduceAdd, Nat.reduceEqDiff, Int.reduceLT, Int.reduceEq, Int.reduceNeg, Int.reduceAdd, Int.reduceMul, Nat.reduceMul, ms_n, ms_i, ms_l, ms_p, PX]
        refine At.blk rfl rfl rfl fun sx => ?_
        simp (decide := true) only [RR, ms_app, toList_some, toList_none, if_true, if_false, true_and, and_true, cond_true, sm0, sm1, sm1l, sm2, lc_lt, lc_gt, lc_eq, Int.toNat_natCast, Int.reduceToNat, Nat.reduceAdd, Nat.reduceEqDiff, Int.reduceLT, Int.reduceEq, Int.reduceNeg, Int.reduceAdd, Int.reduceMul, Nat.reduceMul, ms_n, ms_i, ms_l, ms_p, PX]
        rw [if_neg (by omega)]
        refine At.blk rfl rfl rfl fun sx => ?_
        simp (decide := true) only [RR, ms_app, toList_some, toList_none, if_true, if_false, true_and, and_true, cond_true, sm0, sm1, sm1l, sm2, lc_lt, lc_gt, lc_eq, Int.toNat_natCast, Int.reduceToNat, Nat.reduceAdd, Nat.reduceEqDiff, Int.reduceLT, Int.reduceEq, Int.reduceNeg, Int.reduceAdd, Int.reduceMul, Nat.reduceMul, ms_n, ms_i, ms_l, ms_p, PX]
        refine cal_of rfl (x_iminE ?_)
        simp (decide := true) only [RR, ms_app, toList_some, toList_none, if_true, if_false, true_and, and_true, cond_true, sm0, sm1, sm1l, sm2, lc_lt, lc_gt, lc_eq, Int.toNat_natCast, Int.reduceToNat, Nat.reduceAdd, Nat.reduceEqDiff, Int.reduceLT, Int.reduceEq, Int.reduceNeg, Int.reduceAdd, Int.reduceMul, Nat.reduceMul, ms_n, ms_i, ms_l, ms_p, PX]
        refine At.blk rfl rfl rfl fun sx => ?_
        simp (decide := true) only [RR, ms_app, toList_some, toList_none, if_true, if_false, true_and, and_true, cond_true, sm0, sm1, sm1l, sm2, lc_lt, lc_gt, lc_eq, Int.toNat_natCast, Int.reduceToNat, Nat.reduceAdd, Nat.reduceEqDiff, Int.reduceLT, Int.reduceEq, Int.reduceNeg, Int.reduceAdd, Int.reduceMul, Nat.reduceMul, ms_n, ms_i, ms_l, ms_p, PX, w1 ()]
        have nx := nx (some (.inl v))
        rw [show (if k = 0 ∨ a4 < v then v else a4) = (if a4 < v then v else a4) by by_cases h : a4 < v <;> simp [h, c], show (if k = 0 ∨ v < a5 then v else a5) = (if v < a5 then v else a5) by by_cases h : v < a5 <;> simp [h, c]] at nx
        exact nx
  refine At.blk rfl rfl rfl fun sx => ?_
  simp (decide := true) only [RR, ms_app, toList_some, toList_none, if_true, if_false, true_and, and_true, cond_true, sm0, sm1, sm1l, sm2, lc_lt, lc_gt, lc_eq, Int.toNat_natCast, Int.reduceToNat, Nat.reduceAdd, Nat.reduceEqDiff, Int.reduceLT, Int.reduceEq, Int.reduceNeg, Int.reduceAdd, Int.reduceMul, Nat.reduceMul, ms_n, ms_i, ms_l, ms_p, PX]
  exact loop C.1 0 rfl (by omega) σ _ Fr.same
end
