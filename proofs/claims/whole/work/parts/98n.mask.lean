def amL : List Nat := [184, 185, 186, 187, 214, 215, 216]
def amT : List (Nat × Nat) := [(146, 1), (146, 2), (146, 3), (146, 4), (146, 5), (146, 6), (146, 7), (146, 8), (146, 46), (146, 89), (146, 91), (146, 92), (146, 93), (146, 95), (146, 96), (146, 97)]
theorem Stk.rev {σ : mM} {q : Nat} {cs : List Int} (h : Stk σ q cs.reverse) (j : Nat) (hj : j < cs.length) : σ q j = cs[j] := by
  have e : cs.reverse = (cs.drop (j + 1)).reverse ++ cs[j] :: (cs.take j).reverse := by
    have e1 : cs = cs.take j ++ cs[j] :: cs.drop (j + 1) := by
      rw [← List.drop_eq_getElem_cons hj, List.take_append_drop]
    conv => lhs; rw [e1]
    simp [List.reverse_append]
  rw [e] at h
  have g := Stk.get h
  rw [List.length_reverse, List.length_take, Nat.min_eq_left (by omega)] at g
  exact g
def askM (σ : mM) (N : Int) : mM := mj_set (mj_set (mj_set (mj_set (mj_set (mj_set (mj_set (mj_set (mj_set (mj_set (mj_set σ 146 3 N) 146 1 0) 146 2 0) 146 4 (-1)) 146 5 0) 146 6 (-1)) 146 46 2) 146 89 0) 146 91 0) 146 92 0) 146 93 0
theorem askM_fr {σ : mM} {N : Int} : Fr amL amT σ (askM σ N) := ((((((((((Fr.same.set rfl).set rfl).set rfl).set rfl).set rfl).set rfl).set rfl).set rfl).set rfl).set rfl).set rfl
section
variable {d : Nat} {σ : mM} {K : Option mV → mM → Prop} {N : Nat} {t : Nat → Int} {C : Ct} {w : Sk}
/-- the parts are told one by one -/
theorem m_askLoop {j : Nat} {cs : List Int} {b : Bool} (hj : j < 6) (hF : Fix σ) (hC : CtV C) (hw : SkV C w) (hcm : CtM σ C) (hsm : SkM σ C w) (ht : ∀ p, p < C.1 → σ 184 p = tolP C w p) (hl : cs.length ≤ 1600) (r2 : σ 146 89 = (cs.length : Int)) (r4 : ∀ (i : Nat) (h : i < cs.length), σ 214 i = cs[i]) (hty : tys cs [] = some [b]) (h96 : σ 146 96 = if (j : Int) < 2 then -1 else 0) (h97 : σ 146 97 = 1) (hK : ∀ σ', Fr [216] [(146, 95), (146, 96), (146, 97)] σ σ' → K (some (.inr (.inl (ansN (j : Int) (qV C w cs) C.1)))) σ') : At (d + 6) 265 7 [some (.inr (.inr 146)), some (.inl (j : Int)), some (.inl 0)] [] σ K := by
  have n7 := hC.1
  have loop : ∀ (m k : Nat), C.1 - k = m → k ≤ C.1 → ∀ σ', Fr [216] [(146, 95), (146, 96), (146, 97)] σ σ' → σ' 146 96 = ansN (j : Int) (qV C w cs) k → σ' 146 97 = (if k = 0 then 1 else 0) → At (d + 6) 265 7 [some (.inr (.inr 146)), some (.inl (j : Int)), some (.inl (k : Int))] [] σ' K := by
    intro m
    induction m with
    | zero =>
      intro k hk hk2 σ' fr e96 e97
      obtain rfl : k = C.1 := by omega
      have hF' := hF.fr fr rfl
      have e1 : σ' 173 2 = (C.1 : Int) := (fr 173 2 rfl).trans hcm.1
      refine At.blk rfl rfl rfl fun sx => ?_
      simp (decide := true) only [RR, ms_app, toList_some, toList_none, if_true, if_false, true_and, and_true, cond_true, sm0, sm1, sm1l, sm2, lc_lt, lc_gt, lc_eq, Int.toNat_natCast, Int.reduceToNat, Nat.reduceAdd, Nat.reduceEqDiff, Int.reduceLT, Int.reduceEq, Int.reduceNeg, Int.reduceAdd, Int.reduceMul, Nat.reduceMul, ms_n, ms_i, ms_l, ms_p, PM]
      refine cal_of rfl (m_partMany hF' ?_)
      simp (decide := true) only [RR, ms_app, toList_some, toList_none, if_true, if_false, true_and, and_true, cond_true, sm0, sm1, sm1l, sm2, lc_lt, lc_gt, lc_eq, Int.toNat_natCast, Int.reduceToNat, Nat.reduceAdd, Nat.reduceEqDiff, Int.reduceLT, Int.reduceEq, Int.reduceNeg, Int.reduceAdd, Int.reduceMul, Nat.reduceMul, ms_n, ms_i, ms_l, ms_p, PM, e1]
      rw [if_neg (by omega)]
      refine At.blk rfl rfl rfl fun sx => ?_
      simp (decide := true) only [RR, ms_app, toList_some, toList_none, if_true, if_false, true_and, and_true, cond_true, sm0, sm1, sm1l, sm2, lc_lt, lc_gt, lc_eq, Int.toNat_natCast, Int.reduceToNat, Nat.reduceAdd, Nat.reduceEqDiff, Int.reduceLT, Int.reduceEq, Int.reduceNeg, Int.reduceAdd, Int.reduceMul, Nat.reduceMul, ms_n, ms_i, ms_l, ms_p, PM, e96]
      exact hK σ' fr
    | succ m ih =>
      intro k hk hk2 σ' fr e96 e97
      have hp : k < C.1 := by omega
      have hF' := hF.fr fr rfl
      have e1 : σ' 173 2 = (C.1 : Int) := (fr 173 2 rfl).trans hcm.1
      have hcM := hcm.cg (fr 173 2 rfl) (fr 178 2 rfl) (fr.row 176 rfl) (fr.row 179 rfl) (fr.row 180 rfl) (fr.row 181 rfl)
      have hsM := hsm.cg (fun k _ => fr 182 k rfl) n7
      have tb := tol_le (C := C) hw hp
      have qb := (qV_le hC hw hp hty).1
      have al := ansN_le (J := (j : Int)) (f := qV C w cs) (n := C.1) (fun i hi => (qV_le hC hw hi hty).1) k (by omega)
      have w1 : Unit → w32 ((k : Int) + 1) = ((k + 1 : Nat) : Int) := fun _ => by rw [w32_small (by omega) (by omega)]; omega
      refine At.blk rfl rfl rfl fun sx => ?_
      simp (decide := true) only [RR, ms_app, toList_some, toList_none, if_true, if_false, true_and, and_true, cond_true, sm0, sm1, sm1l, sm2, lc_lt, lc_gt, lc_eq, Int.toNat_natCast, Int.reduceToNat, Nat.reduceAdd, Nat.reduceEqDiff, Int.reduceLT, Int.reduceEq, Int.reduceNeg, Int.reduceAdd, Int.reduceMul, Nat.reduceMul, ms_n, ms_i, ms_l, ms_p, PM]
      refine cal_of rfl (m_partMany hF' ?_)
      simp (decide := true) only [RR, ms_app, toList_some, toList_none, if_true, if_false, true_and, and_true, cond_true, sm0, sm1, sm1l, sm2, lc_lt, lc_gt, lc_eq, Int.toNat_natCast, Int.reduceToNat, Nat.reduceAdd, Nat.reduceEqDiff, Int.reduceLT, Int.reduceEq, Int.reduceNeg, Int.reduceAdd, Int.reduceMul, Nat.reduceMul, ms_n, ms_i, ms_l, ms_p, PM, e1]
      rw [if_pos (by omega)]
      refine cal_of rfl (m_qTold (C := C) (w := w) (t := tolP C w) (p := k) (cs := cs) (b := b) hF' hC hw hp hcM hsM ((fr 184 k rfl).trans (ht k hp)) (by omega) hl ((fr 146 89 rfl).trans r2) (fun i h => (fr 214 i rfl).trans (r4 i h)) hty (fun σ2 f2 => ?_))
      have ev : (evC C w (tolP C w) k cs []).headD 0 = qV C w cs k := rfl
      rw [ev]
      have F2 : Fr [216] [(146, 95), (146, 96), (146, 97)] σ σ2 := fr.trans (f2.mono rfl)
      simp (decide := true) only [RR, ms_app, toList_some, toList_none, if_true, if_false, true_and, and_true, cond_true, sm0, sm1, sm1l, sm2, lc_lt, lc_gt, lc_eq, Int.toNat_natCast, Int.reduceToNat, Nat.reduceAdd, Nat.reduceEqDiff, Int.reduceLT, Int.reduceEq, Int.reduceNeg, Int.reduceAdd, Int.reduceMul, Nat.reduceMul, ms_n, ms_i, ms_l, ms_p, PM]
      refine cal_of rfl (m_qTakes (a := ansN (j : Int) (qV C w cs) k) (by omega) ((f2 146 96 rfl).trans e96) ((f2 146 97 rfl).trans e97) (by omega) qb (fun σ3 f3 a96 a97 => ?_))
      simp (decide := true) only [RR, ms_app, toList_some, toList_none, if_true, if_false, true_and, and_true, cond_true, sm0, sm1, sm1l, sm2, lc_lt, lc_gt, lc_eq, Int.toNat_natCast, Int.reduceToNat, Nat.reduceAdd, Nat.reduceEqDiff, Int.reduceLT, Int.reduceEq, Int.reduceNeg, Int.reduceAdd, Int.reduceMul, Nat.reduceMul, ms_n, ms_i, ms_l, ms_p, PM, w1 ()]
      exact ih (k + 1) (by omega) (by omega) σ3 (F2.trans (f3.mono rfl)) a96 (by rw [a97, if_neg (by omega)])
  exact loop C.1 0 rfl (by omega) σ Fr.same h96 h97
theorem m_ask (hF : Fix σ) (hC : CtV C) (hw : SkV C w) (hcm : CtM σ C) (hsm : SkM σ C w) (e1 : σ 146 1 = (N : Int)) (n16 : N ≤ 1600) (hrow : ∀ k, k < N → σ 147 k = t k ∧ 0 ≤ t k ∧ t k ≤ 255)
    (hq : (∃ j cs e s0 s1 g', QuOk N t j cs e s0 s1 g' ∧ ∀ σ', Fr amL amT σ σ' → σ' 146 1 = 0 → σ' 146 7 = 0 → σ' 146 8 = -1 → K (some (.inr (.inl (ansN (j : Int) (qV C w cs) C.1)))) σ') ∨ ∃ k p, QuNo N t k p ∧ k ≠ 0 ∧ ∀ σ', Fr amL amT σ σ' → σ' 146 1 = 0 → σ' 146 7 = k → σ' 146 8 = p → K (some (.inr (.inl (-1000000000000000)))) σ') : Mt (d + 15) 265 [.inr (.inr 146)] σ K := by
  refine Mt.go (lv := [some (.inr (.inr 146)), none, none]) rfl rfl rfl ?_
  have n7 := hC.1
  have bad3 : ∀ (σ' : mM) (k p : Int) (o1 : Option mV), k ≠ 0 → σ' 146 5 = k → σ' 146 6 = p → Fr amL amT σ σ' → σ' 146 1 = 0 → (∀ σ', Fr amL amT σ σ' → σ' 146 1 = 0 → σ' 146 7 = k → σ' 146 8 = p → K (some (.inr (.inl (-1000000000000000)))) σ') → At (d + 14) 265 3 [some (.inr (.inr 146)), o1, none] [] σ' K := by
    intro σ' k p o1 hk a5 a6 f a1 hK
    refine At.blk rfl rfl rfl fun sx => ?_
    simp (decide := true) only [RR, ms_app, toList_some, toList_none, if_true, if_false, true_and, and_true, cond_true, sm0, sm1, sm1l, sm2, lc_lt, lc_gt, lc_eq, Int.toNat_natCast, Int.reduceToNat, Nat.reduceAdd, Nat.reduceEqDiff, Int.reduceLT, Int.reduceEq, Int.reduceNeg, Int.reduceAdd, Int.reduceMul, Nat.reduceMul, ms_n, ms_i, ms_l, ms_p, PM, a5, a6]
    rw [if_neg hk]
    exact hK _ ((f.set rfl).set rfl) a1 rfl rfl
  have bad2 : ∀ (σ' : mM) (k p : Int) (o1 : Option mV), k ≠ 0 → σ' 146 5 = k → σ' 146 6 = p → Fr amL amT σ σ' → σ' 146 1 = 0 → (∀ σ', Fr amL amT σ σ' → σ' 146 1 = 0 → σ' 146 7 = k → σ' 146 8 = p → K (some (.inr (.inl (-1000000000000000)))) σ') → At (d + 14) 265 2 [some (.inr (.inr 146)), o1, none] [] σ' K := by
    intro σ' k p o1 hk a5 a6 f a1 hK
    refine At.blk rfl rfl rfl fun sx => ?_
    simp (decide := true) only [RR, ms_app, toList_some, toList_none, if_true, if_false, true_and, and_true, cond_true, sm0, sm1, sm1l, sm2, lc_lt, lc_gt, lc_eq, Int.toNat_natCast, Int.reduceToNat, Nat.reduceAdd, Nat.reduceEqDiff, Int.reduceLT, Int.reduceEq, Int.reduceNeg, Int.reduceAdd, Int.reduceMul, Nat.reduceMul, ms_n, ms_i, ms_l, ms_p, PM, a5]
    rw [if_neg hk]
    exact bad3 σ' k p o1 hk a5 a6 f a1 hK
  have bad1 : ∀ (σ' : mM) (k p : Int) (o1 : Option mV), k ≠ 0 → σ' 146 5 = k → σ' 146 6 = p → Fr amL amT σ σ' → σ' 146 1 = 0 → (∀ σ', Fr amL amT σ σ' → σ' 146 1 = 0 → σ' 146 7 = k → σ' 146 8 = p → K (some (.inr (.inl (-1000000000000000)))) σ') → At (d + 14) 265 1 [some (.inr (.inr 146)), o1, none] [] σ' K := by
    intro σ' k p o1 hk a5 a6 f a1 hK
    refine At.blk rfl rfl rfl fun sx => ?_
    simp (decide := true) only [RR, ms_app, toList_some, toList_none, if_true, if_false, true_and, and_true, cond_true, sm0, sm1, sm1l, sm2, lc_lt, lc_gt, lc_eq, Int.toNat_natCast, Int.reduceToNat, Nat.reduceAdd, Nat.reduceEqDiff, Int.reduceLT, Int.reduceEq, Int.reduceNeg, Int.reduceAdd, Int.reduceMul, Nat.reduceMul, ms_n, ms_i, ms_l, ms_p, PM, a5]
    rw [if_neg hk]
    exact bad2 σ' k p o1 hk a5 a6 f a1 hK
  obtain ⟨s0, k0⟩ := skp_ex (N := N) (t := t) N 0 rfl (by omega)
  have hF1 : Fix (askM σ N) := hF.fr askM_fr rfl
  have hT1 : TxM (askM σ N) N t := ⟨rfl, n16, hrow⟩
  have hP1 : PosM (askM σ N) N t s0 false := ⟨⟨0, rfl, k0⟩, by show (-1 : Int) ≤ _; omega, fun _ _ => ⟨fun h => absurd h (by decide), fun h => by have h : (-1 : Int) = (s0 : Int) := h; omega⟩⟩
  refine At.blk rfl rfl rfl fun sx => ?_
  simp (decide := true) only [RR, ms_app, toList_some, toList_none, if_true, if_false, true_and, and_true, cond_true, sm0, sm1, sm1l, sm2, lc_lt, lc_gt, lc_eq, Int.toNat_natCast, Int.reduceToNat, Nat.reduceAdd, Nat.reduceEqDiff, Int.reduceLT, Int.reduceEq, Int.reduceNeg, Int.reduceAdd, Int.reduceMul, Nat.reduceMul, ms_n, ms_i, ms_l, ms_p, PM, e1]
  refine cal_of rfl (m_qKind (σ := askM σ N) (s := s0) (g := false) hF1 hT1 rfl hP1 (fun j2 e2 σ2 s2 hj2 hi2 k2 p2 f2 => ?_) (fun hn σ2 b5 b6 f2 => ?_))
  · have F2 : Fr amL amT σ σ2 := askM_fr.trans (f2.mono rfl)
    have hlt := hi2.lt (kdW_lt j2 hj2)
    have k21 := k2.1
    have a1 : σ2 146 1 = 0 := f2 146 1 rfl
    have b5 : σ2 146 5 = 0 := f2 146 5 rfl
    have q2 : QT σ2 N t 2 s2 (decide (s2 = e2)) [] [] [] 0 := ⟨⟨hF.fr F2 rfl, hT1.cg (f2 146 3 rfl) (f2.row 147 rfl), b5, p2, ⟨f2 146 46 rfl, f2 146 6 rfl⟩, ⟨f2 146 89 rfl, trivial⟩, ⟨f2 146 91 rfl, trivial⟩, f2 146 92 rfl, f2 146 93 rfl, by show 0 + 0 ≤ s2; omega⟩, by show 0 + 0 < s2; omega, by omega⟩
    have hx : ¬(1 ≤ ([] : List Int).headD 0 ∧ ([] : List Int).headD 0 ≤ 4) := by decide
    simp (decide := true) only [RR, ms_app, toList_some, toList_none, if_true, if_false, true_and, and_true, cond_true, sm0, sm1, sm1l, sm2, lc_lt, lc_gt, lc_eq, Int.toNat_natCast, Int.reduceToNat, Nat.reduceAdd, Nat.reduceEqDiff, Int.reduceLT, Int.reduceEq, Int.reduceNeg, Int.reduceAdd, Int.reduceMul, Nat.reduceMul, ms_n, ms_i, ms_l, ms_p, PM, b5]
    rcases hq with ⟨j, cs, e, s0', s1, g', ⟨hj, k0', hi, k1, hl, hA, hS⟩, hK⟩ | ⟨k, p, ⟨s0', k0', hq⟩, hk, hK⟩
    · obtain rfl := k0.uniq k0'
      obtain ⟨rfl, ew⟩ := hi.uniq hi2 (kdW_lt j hj) (kdW_lt j2 hj2)
      obtain rfl := kdW_inj j hj j2 hj2 ew
      obtain rfl := k1.uniq k2
      obtain ⟨b, hty⟩ : ∃ b, tys cs [] = some [b] := by
        by_cases c : j < 3
        · exact ⟨true, (hA c).1 [] (by decide)⟩
        · exact ⟨false, (hS c).1 [] (by decide)⟩
      have two : ∀ σ3, QT σ3 N t 2 N g' cs.reverse [] [] 0 → Fr fqL fqT σ2 σ3 → At (d + 14) 265 2 [some (.inr (.inr 146)), some (.inl (j : Int)), none] [] σ3 K := by
        intro σ3 q3 f3
        have F3 : Fr amL amT σ σ3 := F2.trans (f3.mono rfl)
        refine At.blk rfl rfl rfl fun sx => ?_
        simp (decide := true) only [RR, ms_app, toList_some, toList_none, if_true, if_false, true_and, and_true, cond_true, sm0, sm1, sm1l, sm2, lc_lt, lc_gt, lc_eq, Int.toNat_natCast, Int.reduceToNat, Nat.reduceAdd, Nat.reduceEqDiff, Int.reduceLT, Int.reduceEq, Int.reduceNeg, Int.reduceAdd, Int.reduceMul, Nat.reduceMul, ms_n, ms_i, ms_l, ms_p, PM, q3.1.2.2.1]
        refine cal_of rfl (m_look q3.1.1 q3.1.2.1 q3.1.2.2.2.1 (fun σ4 f4 p4 => ?_))
        have q4 := q3.lk f4 p4
        have F4 : Fr amL amT σ σ4 := F3.trans (f4.mono rfl)
        have c1 : chr0 N t N = -1 := by unfold chr0; rw [if_neg (by omega)]
        have c5 : σ4 146 5 = 0 := q4.1.2.2.1
        have c6 : σ4 146 6 = -1 := q4.1.2.2.2.2.1.2
        have a4 : σ4 146 1 = 0 := by rw [f4 146 1 rfl, f3 146 1 rfl]; exact a1
        simp (decide := true) only [RR, ms_app, toList_some, toList_none, if_true, if_false, true_and, and_true, cond_true, sm0, sm1, sm1l, sm2, lc_lt, lc_gt, lc_eq, Int.toNat_natCast, Int.reduceToNat, Nat.reduceAdd, Nat.reduceEqDiff, Int.reduceLT, Int.reduceEq, Int.reduceNeg, Int.reduceAdd, Int.reduceMul, Nat.reduceMul, ms_n, ms_i, ms_l, ms_p, PM, c1]
        refine At.blk rfl rfl rfl fun sx => ?_
        simp (decide := true) only [RR, ms_app, toList_some, toList_none, if_true, if_false, true_and, and_true, cond_true, sm0, sm1, sm1l, sm2, lc_lt, lc_gt, lc_eq, Int.toNat_natCast, Int.reduceToNat, Nat.reduceAdd, Nat.reduceEqDiff, Int.reduceLT, Int.reduceEq, Int.reduceNeg, Int.reduceAdd, Int.reduceMul, Nat.reduceMul, ms_n, ms_i, ms_l, ms_p, PM, c5, c6]
        have six : ∀ x : Int, x = (if (j : Int) < 2 then -1 else 0) → At (d + 14) 265 6 [some (.inr (.inr 146)), some (.inl (j : Int)), none] [.inr (.inl x), .inr (.inr 146)] (mj_set (mj_set σ4 146 7 0) 146 8 (-1)) K := by
          intro x hx
          have F5 : Fr amL amT σ (mj_set (mj_set (mj_set (mj_set σ4 146 7 0) 146 8 (-1)) 146 96 x) 146 97 1) := (((F4.set rfl).set rfl).set rfl).set rfl
          have hF5 := hF.fr F5 rfl
          have hc5 := hcm.cg (F5 173 2 rfl) (F5 178 2 rfl) (F5.row 176 rfl) (F5.row 179 rfl) (F5.row 180 rfl) (F5.row 181 rfl)
          have hs5 := hsm.cg (fun k _ => F5 182 k rfl) n7
          refine At.blk rfl rfl rfl fun sx => ?_
          simp (decide := true) only [RR, ms_app, toList_some, toList_none, if_true, if_false, true_and, and_true, cond_true, sm0, sm1, sm1l, sm2, lc_lt, lc_gt, lc_eq, Int.toNat_natCast, Int.reduceToNat, Nat.reduceAdd, Nat.reduceEqDiff, Int.reduceLT, Int.reduceEq, Int.reduceNeg, Int.reduceAdd, Int.reduceMul, Nat.reduceMul, ms_n, ms_i, ms_l, ms_p, PM]
          refine cal_of rfl (m_laysTold hF5 hC hw hc5 hs5 (fun σ6 f6 h6 => ?_))
          have F6 : Fr amL amT σ (mj_set σ6 146 46 2) := (F5.trans (f6.mono rfl)).set rfl
          have hF6 := hF.fr F6 rfl
          have hc6 := hcm.cg (F6 173 2 rfl) (F6 178 2 rfl) (F6.row 176 rfl) (F6.row 179 rfl) (F6.row 180 rfl) (F6.row 181 rfl)
          have hs6 := hsm.cg (fun k _ => F6 182 k rfl) n7
          simp (decide := true) only [RR, ms_app, toList_some, toList_none, if_true, if_false, true_and, and_true, cond_true, sm0, sm1, sm1l, sm2, lc_lt, lc_gt, lc_eq, Int.toNat_natCast, Int.reduceToNat, Nat.reduceAdd, Nat.reduceEqDiff, Int.reduceLT, Int.reduceEq, Int.reduceNeg, Int.reduceAdd, Int.reduceMul, Nat.reduceMul, ms_n, ms_i, ms_l, ms_p, PM]
          refine m_askLoop (d := d + 8) (C := C) (w := w) (cs := cs) (b := b) hj hF6 hC hw hc6 hs6 (fun p hp => (h6 p hp).2.2) hl ?_ (fun i h => ?_) hty ?_ ?_ (fun σ7 f7 => ?_)
          · show σ6 146 89 = _
            rw [f6 146 89 rfl]
            have := q4.1.2.2.2.2.2.1.1
            rw [List.length_reverse] at this
            exact this
          · show σ6 214 i = _
            rw [f6 214 i rfl]
            exact q4.1.2.2.2.2.2.1.2.rev i h
          · show σ6 146 96 = _
            rw [f6 146 96 rfl]
            exact hx
          · show σ6 146 97 = _
            rw [f6 146 97 rfl]
            rfl
          · refine hK σ7 (F6.trans (f7.mono rfl)) ?_ ?_ ?_
            · rw [f7 146 1 rfl]; show σ6 146 1 = 0; rw [f6 146 1 rfl]; exact a4
            · rw [f7 146 7 rfl]; show σ6 146 7 = 0; rw [f6 146 7 rfl]; rfl
            · rw [f7 146 8 rfl]; show σ6 146 8 = -1; rw [f6 146 8 rfl]; rfl
        refine At.blk rfl rfl rfl fun sx => ?_
        simp (decide := true) only [RR, ms_app, toList_some, toList_none, if_true, if_false, true_and, and_true, cond_true, sm0, sm1, sm1l, sm2, lc_lt, lc_gt, lc_eq, Int.toNat_natCast, Int.reduceToNat, Nat.reduceAdd, Nat.reduceEqDiff, Int.reduceLT, Int.reduceEq, Int.reduceNeg, Int.reduceAdd, Int.reduceMul, Nat.reduceMul, ms_n, ms_i, ms_l, ms_p, PM]
        by_cases c2 : (j : Int) < 2
        · rw [if_pos c2]
          exact six (-1) (by rw [if_pos c2])
        · rw [if_neg c2]
          refine At.blk rfl rfl rfl fun sx => ?_
          simp (decide := true) only [RR, ms_app, toList_some, toList_none, if_true, if_false, true_and, and_true, cond_true, sm0, sm1, sm1l, sm2, lc_lt, lc_gt, lc_eq, Int.toNat_natCast, Int.reduceToNat, Nat.reduceAdd, Nat.reduceEqDiff, Int.reduceLT, Int.reduceEq, Int.reduceNeg, Int.reduceAdd, Int.reduceMul, Nat.reduceMul, ms_n, ms_i, ms_l, ms_p, PM]
          exact six 0 (by rw [if_neg c2])
      by_cases c : j < 3
      · rw [if_pos (by omega)]
        refine cal_of rfl (m_test_ok q2 (hA c) (fun σ3 q3 f3 => ?_))
        simp (decide := true) only [RR, ms_app, toList_some, toList_none, if_true, if_false, true_and, and_true, cond_true, sm0, sm1, sm1l, sm2, lc_lt, lc_gt, lc_eq, Int.toNat_natCast, Int.reduceToNat, Nat.reduceAdd, Nat.reduceEqDiff, Int.reduceLT, Int.reduceEq, Int.reduceNeg, Int.reduceAdd, Int.reduceMul, Nat.reduceMul, ms_n, ms_i, ms_l, ms_p, PM]
        exact two σ3 q3 f3
      · rw [if_neg (by omega)]
        refine At.blk rfl rfl rfl fun sx => ?_
        simp (decide := true) only [RR, ms_app, toList_some, toList_none, if_true, if_false, true_and, and_true, cond_true, sm0, sm1, sm1l, sm2, lc_lt, lc_gt, lc_eq, Int.toNat_natCast, Int.reduceToNat, Nat.reduceAdd, Nat.reduceEqDiff, Int.reduceLT, Int.reduceEq, Int.reduceNeg, Int.reduceAdd, Int.reduceMul, Nat.reduceMul, ms_n, ms_i, ms_l, ms_p, PM, b5]
        obtain ⟨-, -, ss, no⟩ := hS c
        refine cal_of rfl (m_sum_ok q2 hx ss no (fun σ3 q3 f3 => ?_))
        simp (decide := true) only [RR, ms_app, toList_some, toList_none, if_true, if_false, true_and, and_true, cond_true, sm0, sm1, sm1l, sm2, lc_lt, lc_gt, lc_eq, Int.toNat_natCast, Int.reduceToNat, Nat.reduceAdd, Nat.reduceEqDiff, Int.reduceLT, Int.reduceEq, Int.reduceNeg, Int.reduceAdd, Int.reduceMul, Nat.reduceMul, ms_n, ms_i, ms_l, ms_p, PM]
        rw [List.append_nil] at q3
        exact two σ3 q3 f3
    · obtain rfl := k0.uniq k0'
      rcases hq with ⟨rfl, rfl, hn⟩ | ⟨j, e, s1, hj, hi, k1, hq⟩
      · exact absurd hi2 (hn j2 hj2 e2)
      obtain ⟨rfl, ew⟩ := hi.uniq hi2 (kdW_lt j hj) (kdW_lt j2 hj2)
      obtain rfl := kdW_inj j hj j2 hj2 ew
      obtain rfl := k1.uniq k2
      rcases hq with ⟨c, hno⟩ | ⟨c, hno⟩ | ⟨s', g', cs, hs', rfl, rfl, hA, hS⟩
      · rw [if_pos (by omega)]
        refine cal_of rfl (m_test_no q2 hno (fun σ3 d5 d6 f3 => ?_))
        simp (decide := true) only [RR, ms_app, toList_some, toList_none, if_true, if_false, true_and, and_true, cond_true, sm0, sm1, sm1l, sm2, lc_lt, lc_gt, lc_eq, Int.toNat_natCast, Int.reduceToNat, Nat.reduceAdd, Nat.reduceEqDiff, Int.reduceLT, Int.reduceEq, Int.reduceNeg, Int.reduceAdd, Int.reduceMul, Nat.reduceMul, ms_n, ms_i, ms_l, ms_p, PM]
        exact bad2 σ3 k p _ hk d5 d6 (F2.trans (f3.mono rfl)) ((f3 146 1 rfl).trans a1) hK
      · rw [if_neg (by omega)]
        refine At.blk rfl rfl rfl fun sx => ?_
        simp (decide := true) only [RR, ms_app, toList_some, toList_none, if_true, if_false, true_and, and_true, cond_true, sm0, sm1, sm1l, sm2, lc_lt, lc_gt, lc_eq, Int.toNat_natCast, Int.reduceToNat, Nat.reduceAdd, Nat.reduceEqDiff, Int.reduceLT, Int.reduceEq, Int.reduceNeg, Int.reduceAdd, Int.reduceMul, Nat.reduceMul, ms_n, ms_i, ms_l, ms_p, PM, b5]
        refine cal_of rfl (m_sum_no q2 hx hno (fun σ3 d5 d6 f3 _ => ?_))
        simp (decide := true) only [RR, ms_app, toList_some, toList_none, if_true, if_false, true_and, and_true, cond_true, sm0, sm1, sm1l, sm2, lc_lt, lc_gt, lc_eq, Int.toNat_natCast, Int.reduceToNat, Nat.reduceAdd, Nat.reduceEqDiff, Int.reduceLT, Int.reduceEq, Int.reduceNeg, Int.reduceAdd, Int.reduceMul, Nat.reduceMul, ms_n, ms_i, ms_l, ms_p, PM]
        exact bad2 σ3 k p _ hk d5 d6 (F2.trans (f3.mono rfl)) ((f3 146 1 rfl).trans a1) hK
      · have two : ∀ σ3, QT σ3 N t 2 s' g' cs.reverse [] [] 0 → Fr fqL fqT σ2 σ3 → At (d + 14) 265 2 [some (.inr (.inr 146)), some (.inl (j : Int)), none] [] σ3 K := by
          intro σ3 q3 f3
          have F3 : Fr amL amT σ σ3 := F2.trans (f3.mono rfl)
          refine At.blk rfl rfl rfl fun sx => ?_
          simp (decide := true) only [RR, ms_app, toList_some, toList_none, if_true, if_false, true_and, and_true, cond_true, sm0, sm1, sm1l, sm2, lc_lt, lc_gt, lc_eq, Int.toNat_natCast, Int.reduceToNat, Nat.reduceAdd, Nat.reduceEqDiff, Int.reduceLT, Int.reduceEq, Int.reduceNeg, Int.reduceAdd, Int.reduceMul, Nat.reduceMul, ms_n, ms_i, ms_l, ms_p, PM, q3.1.2.2.1]
          refine cal_of rfl (m_look q3.1.1 q3.1.2.1 q3.1.2.2.2.1 (fun σ4 f4 p4 => ?_))
          have q4 := q3.lk f4 p4
          have F4 : Fr amL amT σ σ4 := F3.trans (f4.mono rfl)
          have c1 : chr0 N t s' ≠ -1 := by have := (hrow s' hs').2.1; unfold chr0; rw [if_pos hs']; omega
          have a4 : σ4 146 1 = 0 := by rw [f4 146 1 rfl, f3 146 1 rfl]; exact a1
          simp (decide := true) only [RR, ms_app, toList_some, toList_none, if_true, if_false, true_and, and_true, cond_true, sm0, sm1, sm1l, sm2, lc_lt, lc_gt, lc_eq, Int.toNat_natCast, Int.reduceToNat, Nat.reduceAdd, Nat.reduceEqDiff, Int.reduceLT, Int.reduceEq, Int.reduceNeg, Int.reduceAdd, Int.reduceMul, Nat.reduceMul, ms_n, ms_i, ms_l, ms_p, PM]
          rw [if_neg c1]
          simp (decide := true) only [RR, ms_app, toList_some, toList_none, if_true, if_false, true_and, and_true, cond_true, sm0, sm1, sm1l, sm2, lc_lt, lc_gt, lc_eq, Int.toNat_natCast, Int.reduceToNat, Nat.reduceAdd, Nat.reduceEqDiff, Int.reduceLT, Int.reduceEq, Int.reduceNeg, Int.reduceAdd, Int.reduceMul, Nat.reduceMul, ms_n, ms_i, ms_l, ms_p, PM, p4.1]
          refine cal_of rfl (m_fail q4.1.2.2.1 ?_)
          simp (decide := true) only [RR, ms_app, toList_some, toList_none, if_true, if_false, true_and, and_true, cond_true, sm0, sm1, sm1l, sm2, lc_lt, lc_gt, lc_eq, Int.toNat_natCast, Int.reduceToNat, Nat.reduceAdd, Nat.reduceEqDiff, Int.reduceLT, Int.reduceEq, Int.reduceNeg, Int.reduceAdd, Int.reduceMul, Nat.reduceMul, ms_n, ms_i, ms_l, ms_p, PM]
          exact bad3 _ 1 s' _ (by decide) rfl rfl ((F4.set rfl).set rfl) a4 hK
        by_cases c : j < 3
        · rw [if_pos (by omega)]
          refine cal_of rfl (m_test_ok q2 (hA c) (fun σ3 q3 f3 => ?_))
          simp (decide := true) only [RR, ms_app, toList_some, toList_none, if_true, if_false, true_and, and_true, cond_true, sm0, sm1, sm1l, sm2, lc_lt, lc_gt, lc_eq, Int.toNat_natCast, Int.reduceToNat, Nat.reduceAdd, Nat.reduceEqDiff, Int.reduceLT, Int.reduceEq, Int.reduceNeg, Int.reduceAdd, Int.reduceMul, Nat.reduceMul, ms_n, ms_i, ms_l, ms_p, PM]
          exact two σ3 q3 f3
        · rw [if_neg (by omega)]
          refine At.blk rfl rfl rfl fun sx => ?_
          simp (decide := true) only [RR, ms_app, toList_some, toList_none, if_true, if_false, true_and, and_true, cond_true, sm0, sm1, sm1l, sm2, lc_lt, lc_gt, lc_eq, Int.toNat_natCast, Int.reduceToNat, Nat.reduceAdd, Nat.reduceEqDiff, Int.reduceLT, Int.reduceEq, Int.reduceNeg, Int.reduceAdd, Int.reduceMul, Nat.reduceMul, ms_n, ms_i, ms_l, ms_p, PM, b5]
          obtain ⟨-, -, ss, no⟩ := hS c
          refine cal_of rfl (m_sum_ok q2 hx ss no (fun σ3 q3 f3 => ?_))
          simp (decide := true) only [RR, ms_app, toList_some, toList_none, if_true, if_false, true_and, and_true, cond_true, sm0, sm1, sm1l, sm2, lc_lt, lc_gt, lc_eq, Int.toNat_natCast, Int.reduceToNat, Nat.reduceAdd, Nat.reduceEqDiff, Int.reduceLT, Int.reduceEq, Int.reduceNeg, Int.reduceAdd, Int.reduceMul, Nat.reduceMul, ms_n, ms_i, ms_l, ms_p, PM]
          rw [List.append_nil] at q3
          exact two σ3 q3 f3
  · have F2 : Fr amL amT σ σ2 := askM_fr.trans (f2.mono rfl)
    have a1 : σ2 146 1 = 0 := f2 146 1 rfl
    simp (decide := true) only [RR, ms_app, toList_some, toList_none, if_true, if_false, true_and, and_true, cond_true, sm0, sm1, sm1l, sm2, lc_lt, lc_gt, lc_eq, Int.toNat_natCast, Int.reduceToNat, Nat.reduceAdd, Nat.reduceEqDiff, Int.reduceLT, Int.reduceEq, Int.reduceNeg, Int.reduceAdd, Int.reduceMul, Nat.reduceMul, ms_n, ms_i, ms_l, ms_p, PM, b5]
    rcases hq with ⟨j, cs, e, s0', s1, g', ⟨hj, k0', hi, k1, hl, hA, hS⟩, hK⟩ | ⟨k, p, ⟨s0', k0', hq⟩, hk, hK⟩
    · obtain rfl := k0.uniq k0'
      exact absurd hi (hn j hj e)
    · obtain rfl := k0.uniq k0'
      rcases hq with ⟨rfl, rfl, _⟩ | ⟨j, e, s1, hj, hi, k1, hq⟩
      · exact bad1 σ2 1 _ _ (by decide) b5 b6 F2 a1 hK
      · exact absurd hi (hn j hj e)
end
