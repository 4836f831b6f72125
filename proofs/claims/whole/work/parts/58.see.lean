/-! see -/
theorem ms_comm {σ : mM} {q k q' k' : Nat} {x y : Int} (h : q ≠ q') : mj_set (mj_set σ q k x) q' k' y = mj_set (mj_set σ q' k' y) q k x := by
  funext a b
  simp only [ms_app]
  by_cases c1 : a = q'
  · subst c1
    simp only [if_true, if_neg (Ne.symm h)]
  · simp only [c1, if_false]
theorem Inv.tape0 {σ : mM} (h : Inv σ) : Inv (mj_set (mj_set σ 1 1 0) 146 1 0) := by
  obtain ⟨hF, hT, hR, hf, hZ, hP, hS, hC, hN, hk2, hU, hth⟩ := h
  refine ⟨(hF.set rfl).set rfl, ?_, hR.cg rfl rfl, hf.cg rfl rfl rfl rfl, hZ.cg rfl rfl, hP.cg rfl rfl rfl rfl, hS.cg rfl rfl rfl rfl rfl, hC.cg rfl rfl rfl rfl rfl rfl rfl rfl rfl rfl rfl rfl rfl, hN.cg rfl rfl rfl rfl rfl, hk2.cg rfl rfl rfl, hU.cg rfl rfl rfl rfl rfl rfl (fun q h1 h2 => by rw [ms_row (by omega), ms_row (by omega)]), hth⟩
  refine ⟨rfl, by show (0 : Int) ≤ 0 ∧ (0 : Int) ≤ 1600; decide, fun k hk => ?_⟩
  exfalso
  have hk : (k : Int) < 0 := hk
  omega
/-- rows that can be seen -/
def seeB (row : Nat → Int) (n : Int) (i : Nat) : Prop := row (3 * i) ≤ 30 ∧ row (3 * i + 1) < n ∧ row (3 * i + 2) ≤ 20
def seeG (row : Nat → Int) (n len : Int) : Prop := (3 ≤ len ∧ len ≤ 48 ∧ len % 3 = 0) ∧ ∀ i : Nat, 3 * (i : Int) < len → seeB row n i
section
variable {d : Nat} {σ : mM} {K : Option mV → mM → Prop}
theorem x_isToldBy {n : Int} (hF : Fix σ) (hl : 0 ≤ σ 1 1 ∧ σ 1 1 ≤ 1600) (h1 : seeG (σ 2) n (σ 1 1) → K (some (.inl 1)) σ) (h0 : ¬seeG (σ 2) n (σ 1 1) → K (some (.inl 0)) σ) : Mt (d + 1) 72 [.inr (.inr 31), .inr (.inr 1), .inl n] σ K := by
  refine Mt.go (lv := [some (.inr (.inr 31)), some (.inr (.inr 1)), some (.inl n), none]) rfl rfl rfl ?_
  have bad : ¬(3 ≤ σ 1 1 ∧ σ 1 1 ≤ 48 ∧ σ 1 1 % 3 = 0) → At d 72 1 [some (.inr (.inr 31)), some (.inr (.inr 1)), some (.inl n), none] [] σ K := by
    intro hh
    refine At.blk rfl rfl rfl fun sx => ?_
    simp (decide := true) only [RR, ms_app, toList_some, toList_none, if_true, if_false, true_and, and_true, cond_true, sm0, sm1, sm1l, sm2, lc_lt, lc_gt, lc_eq, Int.toNat_natCast, Int.reduceToNat, Nat.reduceAdd, Nat.reduceEqDiff, Int.reduceLT, Int.reduceEq, Int.reduceNeg, Int.reduceAdd, Int.reduceMul, Nat.reduceMul, ms_n, ms_i, ms_l, ms_p, PX, fxX hF]
    exact h0 (fun hg => hh hg.1)
  have good : (3 ≤ σ 1 1 ∧ σ 1 1 ≤ 48 ∧ σ 1 1 % 3 = 0) → At d 72 2 [some (.inr (.inr 31)), some (.inr (.inr 1)), some (.inl n), none] [] σ K := by
    intro hh
    obtain ⟨L, hL⟩ : ∃ L : Nat, σ 1 1 = 3 * (L : Int) := ⟨(σ 1 1 / 3).toNat, by omega⟩
    have loop : ∀ m i : Nat, L - i = m → i ≤ L → (∀ j : Nat, j < i → seeB (σ 2) n j) → At d 72 3 [some (.inr (.inr 31)), some (.inr (.inr 1)), some (.inl n), some (.inl (3 * (i : Int)))] [] σ K := by
      intro m
      induction m with
      | zero =>
        intro i hi hi2 hp
        obtain rfl : i = L := by omega
        refine At.blk rfl rfl rfl fun sx => ?_
        simp (decide := true) only [RR, ms_app, toList_some, toList_none, if_true, if_false, true_and, and_true, cond_true, sm0, sm1, sm1l, sm2, lc_lt, lc_gt, lc_eq, Int.toNat_natCast, Int.reduceToNat, Nat.reduceAdd, Nat.reduceEqDiff, Int.reduceLT, Int.reduceEq, Int.reduceNeg, Int.reduceAdd, Int.reduceMul, Nat.reduceMul, ms_n, ms_i, ms_l, ms_p, PX, fxX hF]
        rw [if_neg (by omega)]
        refine At.blk rfl rfl rfl fun sx => ?_
        simp (decide := true) only [RR, ms_app, toList_some, toList_none, if_true, if_false, true_and, and_true, cond_true, sm0, sm1, sm1l, sm2, lc_lt, lc_gt, lc_eq, Int.toNat_natCast, Int.reduceToNat, Nat.reduceAdd, Nat.reduceEqDiff, Int.reduceLT, Int.reduceEq, Int.reduceNeg, Int.reduceAdd, Int.reduceMul, Nat.reduceMul, ms_n, ms_i, ms_l, ms_p, PX, fxX hF]
        exact h1 ⟨hh, fun j hj => hp j (by omega)⟩
      | succ m ih =>
        intro i hi hi2 hp
        have four : ¬seeB (σ 2) n i → At d 72 4 [some (.inr (.inr 31)), some (.inr (.inr 1)), some (.inl n), some (.inl (3 * (i : Int)))] [] σ K := by
          intro hb
          refine At.blk rfl rfl rfl fun sx => ?_
          simp (decide := true) only [RR, ms_app, toList_some, toList_none, if_true, if_false, true_and, and_true, cond_true, sm0, sm1, sm1l, sm2, lc_lt, lc_gt, lc_eq, Int.toNat_natCast, Int.reduceToNat, Nat.reduceAdd, Nat.reduceEqDiff, Int.reduceLT, Int.reduceEq, Int.reduceNeg, Int.reduceAdd, Int.reduceMul, Nat.reduceMul, ms_n, ms_i, ms_l, ms_p, PX, fxX hF]
          exact h0 (fun hg => hb (hg.2 i (by omega)))
        have b0 : (3 * (i : Int)).toNat = 3 * i := by omega
        have b1 : w32 (3 * (i : Int) + 1) = 3 * (i : Int) + 1 := w32_small (by omega) (by omega)
        have b1' : (3 * (i : Int) + 1).toNat = 3 * i + 1 := by omega
        have b2 : w32 (3 * (i : Int) + 2) = 3 * (i : Int) + 2 := w32_small (by omega) (by omega)
        have b2' : (3 * (i : Int) + 2).toNat = 3 * i + 2 := by omega
        have b3 : w32 (3 * (i : Int) + 3) = 3 * ((i + 1 : Nat) : Int) := by rw [w32_small (by omega) (by omega)]; omega
        refine At.blk rfl rfl rfl fun sx => ?_
        simp (decide := true) only [RR, ms_app, toList_some, toList_none, if_true, if_false, true_and, and_true, cond_true, sm0, sm1, sm1l, sm2, lc_lt, lc_gt, lc_eq, Int.toNat_natCast, Int.reduceToNat, Nat.reduceAdd, Nat.reduceEqDiff, Int.reduceLT, Int.reduceEq, Int.reduceNeg, Int.reduceAdd, Int.reduceMul, Nat.reduceMul, ms_n, ms_i, ms_l, ms_p, PX, fxX hF, b0, b1, b1', b2, b2']
        rw [if_pos (by omega)]
        refine ⟨⟨by omega, by omega⟩, ?_⟩
        by_cases c0 : 30 < σ 2 (3 * i)
        · rw [if_pos c0]
          exact four (fun hb => absurd hb.1 (by omega))
        · rw [if_neg c0]
          refine ⟨⟨by omega, by omega⟩, ?_⟩
          by_cases c1 : σ 2 (3 * i + 1) < n
          · rw [if_pos c1]
            refine ⟨⟨by omega, by omega⟩, ?_⟩
            by_cases c2 : 20 < σ 2 (3 * i + 2)
            · rw [if_pos c2]
              exact four (fun hb => absurd hb.2.2 (by omega))
            · rw [if_neg c2]
              refine At.blk rfl rfl rfl fun sx => ?_
              simp (decide := true) only [RR, ms_app, toList_some, toList_none, if_true, if_false, true_and, and_true, cond_true, sm0, sm1, sm1l, sm2, lc_lt, lc_gt, lc_eq, Int.toNat_natCast, Int.reduceToNat, Nat.reduceAdd, Nat.reduceEqDiff, Int.reduceLT, Int.reduceEq, Int.reduceNeg, Int.reduceAdd, Int.reduceMul, Nat.reduceMul, ms_n, ms_i, ms_l, ms_p, PX, fxX hF, b3]
              refine ih (i + 1) (by omega) (by omega) (fun j hj => ?_)
              by_cases e : j = i
              · subst e; exact ⟨by omega, c1, by omega⟩
              · exact hp j (by omega)
          · rw [if_neg c1]
            exact four (fun hb => absurd hb.2.1 (by omega))
    refine At.blk rfl rfl rfl fun sx => ?_
    simp (decide := true) only [RR, ms_app, toList_some, toList_none, if_true, if_false, true_and, and_true, cond_true, sm0, sm1, sm1l, sm2, lc_lt, lc_gt, lc_eq, Int.toNat_natCast, Int.reduceToNat, Nat.reduceAdd, Nat.reduceEqDiff, Int.reduceLT, Int.reduceEq, Int.reduceNeg, Int.reduceAdd, Int.reduceMul, Nat.reduceMul, ms_n, ms_i, ms_l, ms_p, PX, fxX hF]
    exact loop L 0 rfl (by omega) (fun j hj => absurd hj (by omega))
  refine At.blk rfl rfl rfl fun sx => ?_
  simp (decide := true) only [RR, ms_app, toList_some, toList_none, if_true, if_false, true_and, and_true, cond_true, sm0, sm1, sm1l, sm2, lc_lt, lc_gt, lc_eq, Int.toNat_natCast, Int.reduceToNat, Nat.reduceAdd, Nat.reduceEqDiff, Int.reduceLT, Int.reduceEq, Int.reduceNeg, Int.reduceAdd, Int.reduceMul, Nat.reduceMul, ms_n, ms_i, ms_l, ms_p, PX, fxX hF]
  by_cases c1 : σ 1 1 < 3
  · rw [if_pos c1]; exact bad (by omega)
  · rw [if_neg c1]
    by_cases c2 : 48 < σ 1 1
    · rw [if_pos c2]; exact bad (by omega)
    · rw [if_neg c2, Int.tmod_eq_emod_of_nonneg (by omega)]
      by_cases c3 : σ 1 1 % 3 = 0
      · rw [if_pos c3]; exact good (by omega)
      · rw [if_neg c3]; exact bad (by omega)
theorem x_take {L : Nat} (hF : Fix σ) (hl : σ 1 1 = 3 * (L : Int)) (hl2 : L ≤ 16) (hK : K none (mj_set (mj_cpy σ 2 0 32 0 (3 * L)) 31 1 (L : Int))) : Mt (d + 2) 73 [.inr (.inr 31), .inr (.inr 1)] σ K := by
  refine Mt.go (lv := [some (.inr (.inr 31)), some (.inr (.inr 1)), none]) rfl rfl rfl ?_
  refine At.blk rfl rfl rfl fun sx => ?_
  simp (decide := true) only [RR, ms_app, toList_some, toList_none, if_true, if_false, true_and, and_true, cond_true, sm0, sm1, sm1l, sm2, lc_lt, lc_gt, lc_eq, Int.toNat_natCast, Int.reduceToNat, Nat.reduceAdd, Nat.reduceEqDiff, Int.reduceLT, Int.reduceEq, Int.reduceNeg, Int.reduceAdd, Int.reduceMul, Nat.reduceMul, ms_n, ms_i, ms_l, ms_p, PX, fxX hF]
  refine cal_of rfl (x_imin (fun hh => ?_) (fun hh => absurd hh (by omega)))
  have e1 : (3 * (L : Int)).toNat = 3 * L := by omega
  have e2 : w32 ((3 * (L : Int)).tdiv 3) = (L : Int) := by rw [Int.tdiv_eq_ediv_of_nonneg (by omega), w32_small (by omega) (by omega)]; omega
  have e3 : mj_cpy σ 2 0 32 0 (3 * L) 31 1 = σ 31 1 := rfl
  simp (decide := true) only [RR, ms_app, toList_some, toList_none, if_true, if_false, true_and, and_true, cond_true, sm0, sm1, sm1l, sm2, lc_lt, lc_gt, lc_eq, Int.toNat_natCast, Int.reduceToNat, Nat.reduceAdd, Nat.reduceEqDiff, Int.reduceLT, Int.reduceEq, Int.reduceNeg, Int.reduceAdd, Int.reduceMul, Nat.reduceMul, ms_n, ms_i, ms_l, ms_p, PX, fxX hF, hl, e1, e2, mc_app]
  exact ⟨by omega, hK⟩
theorem m_refuses {k : Nat} (hk : k < 6) (hF : Fix σ) (hK : K (some (.inl (-1))) (mj_set σ 148 k (w32 (σ 148 k + 1)))) : Mt (d + 1) 219 [.inr (.inr 146), .inl k] σ K := by
  refine Mt.go (lv := [some (.inr (.inr 146)), some (.inl k)]) rfl rfl rfl ?_
  refine At.blk rfl rfl rfl fun sx => ?_
  simp (decide := true) only [RR, ms_app, toList_some, toList_none, if_true, if_false, true_and, and_true, cond_true, sm0, sm1, sm1l, sm2, lc_lt, lc_gt, lc_eq, Int.toNat_natCast, Int.reduceToNat, Nat.reduceAdd, Nat.reduceEqDiff, Int.reduceLT, Int.reduceEq, Int.reduceNeg, Int.reduceAdd, Int.reduceMul, Nat.reduceMul, ms_n, ms_i, ms_l, ms_p, PM, fxM hF]
  exact ⟨⟨by omega, by omega⟩, ⟨by omega, by omega⟩, hK⟩
/-- m bytes of the tape over the rows -/
theorem cpy_push {q0 q1 m : Nat} (h : q0 ≠ q1) : mj_set (mj_cpy σ q0 0 q1 0 m) q1 m (σ q0 m) = mj_cpy σ q0 0 q1 0 (m + 1) := by
  funext q k
  simp only [ms_app, mc_app, Nat.zero_le, true_and, Nat.zero_add, Nat.sub_zero]
  by_cases c1 : q = q1
  · subst c1
    simp only [if_true]
    by_cases c2 : k = m
    · rw [if_pos c2, if_pos (by omega), c2]
    · rw [if_neg c2]
      by_cases c3 : k < m
      · rw [if_pos c3, if_pos (by omega)]
      · rw [if_neg c3, if_neg (by omega)]
  · simp only [c1, if_false]
theorem cpy0 {q0 q1 : Nat} : mj_cpy σ q0 0 q1 0 0 = σ := by
  funext q k
  simp only [mc_app]
  by_cases c1 : q = q1
  · rw [if_pos c1, if_neg (by omega)]
  · rw [if_neg c1]
theorem fix_cpy {q0 sp q1 dp m : Nat} (hF : Fix σ) (h : nofB q1 = true) : Fix (mj_cpy σ q0 sp q1 dp m) := by
  refine hF.row (fun q k hq hf => ?_)
  rw [mc_app]
  by_cases c1 : q = q1
  · subst c1; rw [nofix h] at hf; cases hf
  · rw [if_neg c1]
theorem m_see (hF : Fix σ) (hn : 0 ≤ σ 173 2 ∧ σ 173 2 ≤ 7) (hl : 0 ≤ σ 146 1 ∧ σ 146 1 ≤ 1600) (hb : ∀ k : Nat, (k : Int) < σ 146 1 → 0 ≤ σ 147 k) (h0 : ¬seeG (σ 147) (σ 173 2) (σ 146 1) → K (some (.inl (-1))) (mj_set (mj_set σ 146 1 0) 148 1 (w32 (σ 148 1 + 1)))) (h1 : seeG (σ 147) (σ 173 2) (σ 146 1) → ∀ L : Nat, σ 146 1 = 3 * (L : Int) → K (some (.inl (L : Int))) (mj_set (mj_cpy (mj_set σ 146 1 0) 147 0 189 0 (3 * L)) 146 58 (L : Int))) : Mt (d + 3) 220 [.inr (.inr 146)] σ K := by
  refine Mt.go (lv := [some (.inr (.inr 146)), none, none, none]) rfl rfl rfl ?_
  have hF1 : Fix (mj_set σ 146 1 0) := hF.set rfl
  have six0 : ∀ o : Option mV, ¬seeG (σ 147) (σ 173 2) (σ 146 1) → At (d + 2) 220 6 [some (.inr (.inr 146)), some (.inl (σ 146 1)), some (.inl 0), o] [] (mj_set σ 146 1 0) K := by
    intro o hg
    refine At.blk rfl rfl rfl fun sx => ?_
    simp (decide := true) only [RR, ms_app, toList_some, toList_none, if_true, if_false, true_and, and_true, cond_true, sm0, sm1, sm1l, sm2, lc_lt, lc_gt, lc_eq, Int.toNat_natCast, Int.reduceToNat, Nat.reduceAdd, Nat.reduceEqDiff, Int.reduceLT, Int.reduceEq, Int.reduceNeg, Int.reduceAdd, Int.reduceMul, Nat.reduceMul, ms_n, ms_i, ms_l, ms_p, PM, fxM hF]
    refine cal_of rfl (m_refuses (k := 1) (by decide) hF1 ?_)
    simp (decide := true) only [RR, ms_app, toList_some, toList_none, if_true, if_false, true_and, and_true, cond_true, sm0, sm1, sm1l, sm2, lc_lt, lc_gt, lc_eq, Int.toNat_natCast, Int.reduceToNat, Nat.reduceAdd, Nat.reduceEqDiff, Int.reduceLT, Int.reduceEq, Int.reduceNeg, Int.reduceAdd, Int.reduceMul, Nat.reduceMul, ms_n, ms_i, ms_l, ms_p, PM]
    exact h0 hg
  have bad : ¬(3 ≤ σ 146 1 ∧ σ 146 1 ≤ 48 ∧ σ 146 1 % 3 = 0) → At (d + 2) 220 2 [some (.inr (.inr 146)), some (.inl (σ 146 1)), none, none] [.inl 0] (mj_set σ 146 1 0) K := by
    intro hh
    refine At.blk rfl rfl rfl fun sx => ?_
    simp (decide := true) only [RR, ms_app, toList_some, toList_none, if_true, if_false, true_and, and_true, cond_true, sm0, sm1, sm1l, sm2, lc_lt, lc_gt, lc_eq, Int.toNat_natCast, Int.reduceToNat, Nat.reduceAdd, Nat.reduceEqDiff, Int.reduceLT, Int.reduceEq, Int.reduceNeg, Int.reduceAdd, Int.reduceMul, Nat.reduceMul, ms_n, ms_i, ms_l, ms_p, PM, fxM hF]
    have : At (d + 2) 220 6 [some (.inr (.inr 146)), some (.inl (σ 146 1)), some (.inl 0), some (.inl 0)] [] (mj_set σ 146 1 0) K := six0 _ (fun hg => hh hg.1)
    refine At.blk rfl rfl rfl fun sx => ?_
    simp (decide := true) only [RR, ms_app, toList_some, toList_none, if_true, if_false, true_and, and_true, cond_true, sm0, sm1, sm1l, sm2, lc_lt, lc_gt, lc_eq, Int.toNat_natCast, Int.reduceToNat, Nat.reduceAdd, Nat.reduceEqDiff, Int.reduceLT, Int.reduceEq, Int.reduceNeg, Int.reduceAdd, Int.reduceMul, Nat.reduceMul, ms_n, ms_i, ms_l, ms_p, PM, fxM hF]
    split <;> exact this
  have good : (3 ≤ σ 146 1 ∧ σ 146 1 ≤ 48 ∧ σ 146 1 % 3 = 0) → At (d + 2) 220 2 [some (.inr (.inr 146)), some (.inl (σ 146 1)), none, none] [.inl 1] (mj_set σ 146 1 0) K := by
    intro hh
    obtain ⟨L, hL⟩ : ∃ L : Nat, σ 146 1 = 3 * (L : Int) := ⟨(σ 146 1 / 3).toNat, by omega⟩
    have fin : ∀ o : Option mV, seeG (σ 147) (σ 173 2) (σ 146 1) → At (d + 2) 220 6 [some (.inr (.inr 146)), some (.inl (σ 146 1)), some (.inl 1), o] [] (mj_set σ 146 1 0) K := by
      intro o hg
      have hK := h1 hg L hL
      refine At.blk rfl rfl rfl fun sx => ?_
      simp (decide := true) only [RR, ms_app, toList_some, toList_none, if_true, if_false, true_and, and_true, cond_true, sm0, sm1, sm1l, sm2, lc_lt, lc_gt, lc_eq, Int.toNat_natCast, Int.reduceToNat, Nat.reduceAdd, Nat.reduceEqDiff, Int.reduceLT, Int.reduceEq, Int.reduceNeg, Int.reduceAdd, Int.reduceMul, Nat.reduceMul, ms_n, ms_i, ms_l, ms_p, PM, fxM hF]
      refine At.blk rfl rfl rfl fun sx => ?_
      simp (decide := true) only [RR, ms_app, toList_some, toList_none, if_true, if_false, true_and, and_true, cond_true, sm0, sm1, sm1l, sm2, lc_lt, lc_gt, lc_eq, Int.toNat_natCast, Int.reduceToNat, Nat.reduceAdd, Nat.reduceEqDiff, Int.reduceLT, Int.reduceEq, Int.reduceNeg, Int.reduceAdd, Int.reduceMul, Nat.reduceMul, ms_n, ms_i, ms_l, ms_p, PM, fxM hF]
      have loop : ∀ m i : Nat, 3 * L - i = m → i ≤ 3 * L → At (d + 2) 220 8 [some (.inr (.inr 146)), some (.inl (σ 146 1)), some (.inl 1), some (.inl (i : Int))] [] (mj_cpy (mj_set σ 146 1 0) 147 0 189 0 i) K := by
        intro m
        induction m with
        | zero =>
          intro i hi hi2
          obtain rfl : i = 3 * L := by omega
          have hFi := fix_cpy (q0 := 147) (sp := 0) (q1 := 189) (dp := 0) (m := 3 * L) hF1 rfl
          refine At.blk rfl rfl rfl fun sx => ?_
          simp (decide := true) only [RR, ms_app, toList_some, toList_none, if_true, if_false, true_and, and_true, cond_true, sm0, sm1, sm1l, sm2, lc_lt, lc_gt, lc_eq, Int.toNat_natCast, Int.reduceToNat, Nat.reduceAdd, Nat.reduceEqDiff, Int.reduceLT, Int.reduceEq, Int.reduceNeg, Int.reduceAdd, Int.reduceMul, Nat.reduceMul, ms_n, ms_i, ms_l, ms_p, PM, fxM hFi]
          rw [if_neg (by omega)]
          refine At.blk rfl rfl rfl fun sx => ?_
          simp (decide := true) only [RR, ms_app, toList_some, toList_none, if_true, if_false, true_and, and_true, cond_true, sm0, sm1, sm1l, sm2, lc_lt, lc_gt, lc_eq, Int.toNat_natCast, Int.reduceToNat, Nat.reduceAdd, Nat.reduceEqDiff, Int.reduceLT, Int.reduceEq, Int.reduceNeg, Int.reduceAdd, Int.reduceMul, Nat.reduceMul, ms_n, ms_i, ms_l, ms_p, PM, fxM hFi]
          rw [Int.tdiv_eq_ediv_of_nonneg (by omega), w32_small (by omega) (by omega), show σ 146 1 / 3 = (L : Int) by omega]
          exact hK
        | succ m ih =>
          intro i hi hi2
          have hFi := fix_cpy (q0 := 147) (sp := 0) (q1 := 189) (dp := 0) (m := i) hF1 rfl
          have e147 : mj_cpy (mj_set σ 146 1 0) 147 0 189 0 i 147 i = mj_set σ 146 1 0 147 i := by rw [mc_app, if_neg (by decide)]
          refine At.blk rfl rfl rfl fun sx => ?_
          simp (decide := true) only [RR, ms_app, toList_some, toList_none, if_true, if_false, true_and, and_true, cond_true, sm0, sm1, sm1l, sm2, lc_lt, lc_gt, lc_eq, Int.toNat_natCast, Int.reduceToNat, Nat.reduceAdd, Nat.reduceEqDiff, Int.reduceLT, Int.reduceEq, Int.reduceNeg, Int.reduceAdd, Int.reduceMul, Nat.reduceMul, ms_n, ms_i, ms_l, ms_p, PM, fxM hFi]
          rw [if_pos (by omega), w32_small (by omega) (by omega), e147, cpy_push (by decide)]
          exact ⟨⟨by omega, by omega⟩, ⟨by omega, by omega⟩, ih (i + 1) (by omega) (by omega)⟩
      have := loop (3 * L) 0 rfl (by omega)
      rw [cpy0] at this
      exact this
    have loop : ∀ m i : Nat, L - i = m → i ≤ L → (∀ j : Nat, j < i → seeB (σ 147) (σ 173 2) j) → At (d + 2) 220 3 [some (.inr (.inr 146)), some (.inl (σ 146 1)), some (.inl 1), some (.inl (3 * (i : Int)))] [] (mj_set σ 146 1 0) K := by
      intro m
      induction m with
      | zero =>
        intro i hi hi2 hp
        obtain rfl : i = L := by omega
        refine At.blk rfl rfl rfl fun sx => ?_
        simp (decide := true) only [RR, ms_app, toList_some, toList_none, if_true, if_false, true_and, and_true, cond_true, sm0, sm1, sm1l, sm2, lc_lt, lc_gt, lc_eq, Int.toNat_natCast, Int.reduceToNat, Nat.reduceAdd, Nat.reduceEqDiff, Int.reduceLT, Int.reduceEq, Int.reduceNeg, Int.reduceAdd, Int.reduceMul, Nat.reduceMul, ms_n, ms_i, ms_l, ms_p, PM, fxM hF]
        rw [if_neg (by omega)]
        exact fin _ ⟨hh, fun j hj => hp j (by omega)⟩
      | succ m ih =>
        intro i hi hi2 hp
        have b0 : (3 * (i : Int)).toNat = 3 * i := by omega
        have b1 : w32 (3 * (i : Int) + 1) = 3 * (i : Int) + 1 := w32_small (by omega) (by omega)
        have b1' : (3 * (i : Int) + 1).toNat = 3 * i + 1 := by omega
        have b2 : w32 (3 * (i : Int) + 2) = 3 * (i : Int) + 2 := w32_small (by omega) (by omega)
        have b2' : (3 * (i : Int) + 2).toNat = 3 * i + 2 := by omega
        have b3 : w32 (3 * (i : Int) + 3) = 3 * ((i + 1 : Nat) : Int) := by rw [w32_small (by omega) (by omega)]; omega
        have four : ¬seeB (σ 147) (σ 173 2) i → At (d + 2) 220 4 [some (.inr (.inr 146)), some (.inl (σ 146 1)), some (.inl 1), some (.inl (3 * (i : Int)))] [] (mj_set σ 146 1 0) K := by
          intro hbb
          have hg : ¬seeG (σ 147) (σ 173 2) (σ 146 1) := fun hg => hbb (hg.2 i (by omega))
          refine At.blk rfl rfl rfl fun sx => ?_
          simp (decide := true) only [RR, ms_app, toList_some, toList_none, if_true, if_false, true_and, and_true, cond_true, sm0, sm1, sm1l, sm2, lc_lt, lc_gt, lc_eq, Int.toNat_natCast, Int.reduceToNat, Nat.reduceAdd, Nat.reduceEqDiff, Int.reduceLT, Int.reduceEq, Int.reduceNeg, Int.reduceAdd, Int.reduceMul, Nat.reduceMul, ms_n, ms_i, ms_l, ms_p, PM, fxM hF]
          refine At.blk rfl rfl rfl fun sx => ?_
          simp (decide := true) only [RR, ms_app, toList_some, toList_none, if_true, if_false, true_and, and_true, cond_true, sm0, sm1, sm1l, sm2, lc_lt, lc_gt, lc_eq, Int.toNat_natCast, Int.reduceToNat, Nat.reduceAdd, Nat.reduceEqDiff, Int.reduceLT, Int.reduceEq, Int.reduceNeg, Int.reduceAdd, Int.reduceMul, Nat.reduceMul, ms_n, ms_i, ms_l, ms_p, PM, fxM hF, b3]
          refine At.blk rfl rfl rfl fun sx => ?_
          simp (decide := true) only [RR, ms_app, toList_some, toList_none, if_true, if_false, true_and, and_true, cond_true, sm0, sm1, sm1l, sm2, lc_lt, lc_gt, lc_eq, Int.toNat_natCast, Int.reduceToNat, Nat.reduceAdd, Nat.reduceEqDiff, Int.reduceLT, Int.reduceEq, Int.reduceNeg, Int.reduceAdd, Int.reduceMul, Nat.reduceMul, ms_n, ms_i, ms_l, ms_p, PM, fxM hF]
          split <;> exact six0 _ hg
        have hb1 := hb (3 * i + 1) (by omega)
        refine At.blk rfl rfl rfl fun sx => ?_
        simp (decide := true) only [RR, ms_app, toList_some, toList_none, if_true, if_false, true_and, and_true, cond_true, sm0, sm1, sm1l, sm2, lc_lt, lc_gt, lc_eq, Int.toNat_natCast, Int.reduceToNat, Nat.reduceAdd, Nat.reduceEqDiff, Int.reduceLT, Int.reduceEq, Int.reduceNeg, Int.reduceAdd, Int.reduceMul, Nat.reduceMul, ms_n, ms_i, ms_l, ms_p, PM, fxM hF, b0, b1, b1', b2, b2']
        rw [if_pos (by omega)]
        refine ⟨⟨by omega, by omega⟩, ?_⟩
        by_cases c0 : 30 < σ 147 (3 * i)
        · rw [if_pos c0]
          exact four (fun hb => absurd hb.1 (by omega))
        · rw [if_neg c0]
          refine ⟨⟨by omega, by omega⟩, ?_⟩
          refine cal_of rfl (m_isPart hF1 hn (fun c1 => ?_) (fun c1 => ?_))
          · have c1 : 0 ≤ σ 147 (3 * i + 1) ∧ σ 147 (3 * i + 1) < σ 173 2 := c1
            simp (decide := true) only [RR, ms_app, toList_some, toList_none, if_true, if_false, true_and, and_true, cond_true, sm0, sm1, sm1l, sm2, lc_lt, lc_gt, lc_eq, Int.toNat_natCast, Int.reduceToNat, Nat.reduceAdd, Nat.reduceEqDiff, Int.reduceLT, Int.reduceEq, Int.reduceNeg, Int.reduceAdd, Int.reduceMul, Nat.reduceMul, ms_n, ms_i, ms_l, ms_p, PM, fxM hF, b0, b1, b1', b2, b2']
            refine ⟨⟨by omega, by omega⟩, ?_⟩
            by_cases c2 : 20 < σ 147 (3 * i + 2)
            · rw [if_pos c2]
              exact four (fun hb => absurd hb.2.2 (by omega))
            · rw [if_neg c2]
              refine At.blk rfl rfl rfl fun sx => ?_
              simp (decide := true) only [RR, ms_app, toList_some, toList_none, if_true, if_false, true_and, and_true, cond_true, sm0, sm1, sm1l, sm2, lc_lt, lc_gt, lc_eq, Int.toNat_natCast, Int.reduceToNat, Nat.reduceAdd, Nat.reduceEqDiff, Int.reduceLT, Int.reduceEq, Int.reduceNeg, Int.reduceAdd, Int.reduceMul, Nat.reduceMul, ms_n, ms_i, ms_l, ms_p, PM, fxM hF, b3]
              refine ih (i + 1) (by omega) (by omega) (fun j hj => ?_)
              by_cases e : j = i
              · subst e; exact ⟨by omega, c1.2, by omega⟩
              · exact hp j (by omega)
          · have c1 : ¬(0 ≤ σ 147 (3 * i + 1) ∧ σ 147 (3 * i + 1) < σ 173 2) := c1
            simp (decide := true) only [RR, ms_app, toList_some, toList_none, if_true, if_false, true_and, and_true, cond_true, sm0, sm1, sm1l, sm2, lc_lt, lc_gt, lc_eq, Int.toNat_natCast, Int.reduceToNat, Nat.reduceAdd, Nat.reduceEqDiff, Int.reduceLT, Int.reduceEq, Int.reduceNeg, Int.reduceAdd, Int.reduceMul, Nat.reduceMul, ms_n, ms_i, ms_l, ms_p, PM, fxM hF, b0, b1, b1', b2, b2']
            exact four (fun hb => absurd hb.2.1 (by omega))
    refine At.blk rfl rfl rfl fun sx => ?_
    simp (decide := true) only [RR, ms_app, toList_some, toList_none, if_true, if_false, true_and, and_true, cond_true, sm0, sm1, sm1l, sm2, lc_lt, lc_gt, lc_eq, Int.toNat_natCast, Int.reduceToNat, Nat.reduceAdd, Nat.reduceEqDiff, Int.reduceLT, Int.reduceEq, Int.reduceNeg, Int.reduceAdd, Int.reduceMul, Nat.reduceMul, ms_n, ms_i, ms_l, ms_p, PM, fxM hF]
    exact loop L 0 rfl (by omega) (fun j hj => absurd hj (by omega))
  have bad1 : ¬(3 ≤ σ 146 1 ∧ σ 146 1 ≤ 48 ∧ σ 146 1 % 3 = 0) → At (d + 2) 220 1 [some (.inr (.inr 146)), some (.inl (σ 146 1)), none, none] [] (mj_set σ 146 1 0) K := by
    intro hh
    refine At.blk rfl rfl rfl fun sx => ?_
    simp (decide := true) only [RR, ms_app, toList_some, toList_none, if_true, if_false, true_and, and_true, cond_true, sm0, sm1, sm1l, sm2, lc_lt, lc_gt, lc_eq, Int.toNat_natCast, Int.reduceToNat, Nat.reduceAdd, Nat.reduceEqDiff, Int.reduceLT, Int.reduceEq, Int.reduceNeg, Int.reduceAdd, Int.reduceMul, Nat.reduceMul, ms_n, ms_i, ms_l, ms_p, PM, fxM hF]
    exact bad hh
  refine At.blk rfl rfl rfl fun sx => ?_
  simp (decide := true) only [RR, ms_app, toList_some, toList_none, if_true, if_false, true_and, and_true, cond_true, sm0, sm1, sm1l, sm2, lc_lt, lc_gt, lc_eq, Int.toNat_natCast, Int.reduceToNat, Nat.reduceAdd, Nat.reduceEqDiff, Int.reduceLT, Int.reduceEq, Int.reduceNeg, Int.reduceAdd, Int.reduceMul, Nat.reduceMul, ms_n, ms_i, ms_l, ms_p, PM, fxM hF]
  rw [Int.tmod_eq_emod_of_nonneg (by omega), Int.tdiv_eq_ediv_of_nonneg (by omega), w32_small (by omega) (by omega)]
  by_cases c1 : 0 < σ 146 1
  · first | rw [if_pos c1] | rw [if_neg (by omega)]
    by_cases c2 : σ 146 1 % 3 = 0
    · rw [if_pos c2]
      by_cases c3 : 16 < σ 146 1 / 3
      · rw [if_pos c3]; exact bad1 (by omega)
      · rw [if_neg c3]; exact good (by omega)
    · rw [if_neg c2]; exact bad1 (by omega)
  · first | rw [if_neg c1] | rw [if_pos (by omega)]
    exact bad1 (by omega)
end
