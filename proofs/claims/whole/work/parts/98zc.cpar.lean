/-! a city's text: the class reads it -/
def cyU (r : Nat) : Int := if r = 0 then 1 else if r = 1 then 2 else 6
theorem cyU_tab : ∀ r : Nat, r < 3 → i_or (i_shl 0 5) (cyU r) = cyU r := by decide +kernel
/-- the sums below r are there: told, or of themselves -/
def cyF (σ0 σ : mM) (L0 r : Nat) : Prop := Fr [16, 17, 18] [(15, 3)] σ0 σ ∧ ∃ L : Nat, σ 15 3 = (L : Int) ∧ L0 ≤ L ∧ L ≤ L0 + r ∧ (∀ k, k < L0 → σ 16 k = σ0 16 k) ∧ (∀ j, j < 4 → r ≤ j → σ 17 j = σ0 17 j ∧ σ 18 j = σ0 18 j) ∧ ∀ j, j < r → (σ0 17 j < σ0 18 j ∧ σ 17 j = σ0 17 j ∧ σ 18 j = σ0 18 j) ∨ (¬(σ0 17 j < σ0 18 j) ∧ ∃ a : Nat, σ 17 j = (a : Int) ∧ σ 18 j = (a : Int) + 1 ∧ a < L ∧ σ 16 a = cyU j)
theorem cyF.start {σ : mM} {L0 : Nat} (h : σ 15 3 = (L0 : Int)) : cyF σ σ L0 0 := ⟨Fr.same, L0, h, Nat.le_refl _, Nat.le_refl _, fun _ _ => rfl, fun _ _ _ => ⟨rfl, rfl⟩, fun j hj => absurd hj (Nat.not_lt_zero j)⟩
section
variable {N : Nat} {t : Nat → Int}
theorem x_addUn {d r L0 : Nat} {σ0 σ : mM} {K : Option mV → mM → Prop} (hF : Fix σ0) (hr : r < 3) (hL0 : L0 ≤ 1600) (h : cyF σ0 σ L0 r) (hK : ∀ σ', cyF σ0 σ' L0 (r + 1) → K none σ') : Mt (d + 2) 69 [.inr (.inr 15), .inl (r : Int), .inl (cyU r)] σ K := by
  obtain ⟨f, L, hL, a1, a2, a3, a4, a5⟩ := h
  have hF1 := hF.fr f rfl
  obtain ⟨b1, b2⟩ := a4 r (by omega) (Nat.le_refl _)
  refine Mt.go (lv := [some (.inr (.inr 15)), some (.inl (r : Int)), some (.inl (cyU r))]) rfl rfl rfl ?_
  refine At.blk rfl rfl rfl fun sx => ?_
  simp (decide := true) only [RR, ms_app, toList_some, toList_none, if_true, if_false, true_and, and_true, cond_true, sm0, sm1, sm1l, sm2, lc_lt, lc_gt, lc_eq, Int.toNat_natCast, Int.reduceToNat, Nat.reduceAdd, Nat.reduceEqDiff, Int.reduceLT, Int.reduceEq, Int.reduceNeg, Int.reduceAdd, Int.reduceMul, Nat.reduceMul, ms_n, ms_i, ms_l, ms_p, PX]
  refine cal_of rfl (x_isTold hF1 (by omega) ?_)
  rw [b1, b2]
  by_cases c : σ0 17 r < σ0 18 r
  · rw [if_pos c]
    simp (decide := true) only [RR, ms_app, toList_some, toList_none, if_true, if_false, true_and, and_true, cond_true, sm0, sm1, sm1l, sm2, lc_lt, lc_gt, lc_eq, Int.toNat_natCast, Int.reduceToNat, Nat.reduceAdd, Nat.reduceEqDiff, Int.reduceLT, Int.reduceEq, Int.reduceNeg, Int.reduceAdd, Int.reduceMul, Nat.reduceMul, ms_n, ms_i, ms_l, ms_p, PX]
    refine At.blk rfl rfl rfl fun sx => ?_
    simp (decide := true) only [RR, ms_app, toList_some, toList_none, if_true, if_false, true_and, and_true, cond_true, sm0, sm1, sm1l, sm2, lc_lt, lc_gt, lc_eq, Int.toNat_natCast, Int.reduceToNat, Nat.reduceAdd, Nat.reduceEqDiff, Int.reduceLT, Int.reduceEq, Int.reduceNeg, Int.reduceAdd, Int.reduceMul, Nat.reduceMul, ms_n, ms_i, ms_l, ms_p, PX]
    refine hK σ ⟨f, L, hL, a1, by omega, a3, fun j h1 h2 => a4 j h1 (by omega), fun j hj => ?_⟩
    by_cases e : j = r
    · subst e; exact Or.inl ⟨c, b1, b2⟩
    · exact a5 j (by omega)
  · rw [if_neg c]
    simp (decide := true) only [RR, ms_app, toList_some, toList_none, if_true, if_false, true_and, and_true, cond_true, sm0, sm1, sm1l, sm2, lc_lt, lc_gt, lc_eq, Int.toNat_natCast, Int.reduceToNat, Nat.reduceAdd, Nat.reduceEqDiff, Int.reduceLT, Int.reduceEq, Int.reduceNeg, Int.reduceAdd, Int.reduceMul, Nat.reduceMul, ms_n, ms_i, ms_l, ms_p, PX]
    refine cal_of rfl (x_ropenR (v := (L : Int)) hF1 (by omega) hL ?_)
    have hF2 : Fix (mj_set σ 17 r (L : Int)) := hF1.fr (Fr.same.setr (L := [17]) (T := []) rfl) rfl
    simp (decide := true) only [RR, ms_app, toList_some, toList_none, if_true, if_false, true_and, and_true, cond_true, sm0, sm1, sm1l, sm2, lc_lt, lc_gt, lc_eq, Int.toNat_natCast, Int.reduceToNat, Nat.reduceAdd, Nat.reduceEqDiff, Int.reduceLT, Int.reduceEq, Int.reduceNeg, Int.reduceAdd, Int.reduceMul, Nat.reduceMul, ms_n, ms_i, ms_l, ms_p, PX]
    refine cal_of rfl (x_addStep (L := L) (x := cyU r) hF2 hL (by omega) (cyU_tab r hr) ?_)
    have hF3 : Fix (mj_set (mj_set (mj_set σ 17 r (L : Int)) 16 L (cyU r)) 15 3 ((L + 1 : Nat) : Int)) := hF1.fr (((Fr.same (L := [16, 17, 18]) (T := [(15, 3)])).setr rfl).setr rfl |>.set rfl) rfl
    simp (decide := true) only [RR, ms_app, toList_some, toList_none, if_true, if_false, true_and, and_true, cond_true, sm0, sm1, sm1l, sm2, lc_lt, lc_gt, lc_eq, Int.toNat_natCast, Int.reduceToNat, Nat.reduceAdd, Nat.reduceEqDiff, Int.reduceLT, Int.reduceEq, Int.reduceNeg, Int.reduceAdd, Int.reduceMul, Nat.reduceMul, ms_n, ms_i, ms_l, ms_p, PX]
    refine cal_of rfl (x_rcloseR (v := ((L + 1 : Nat) : Int)) hF3 (by omega) rfl ?_)
    simp (decide := true) only [RR, ms_app, toList_some, toList_none, if_true, if_false, true_and, and_true, cond_true, sm0, sm1, sm1l, sm2, lc_lt, lc_gt, lc_eq, Int.toNat_natCast, Int.reduceToNat, Nat.reduceAdd, Nat.reduceEqDiff, Int.reduceLT, Int.reduceEq, Int.reduceNeg, Int.reduceAdd, Int.reduceMul, Nat.reduceMul, ms_n, ms_i, ms_l, ms_p, PX]
    refine At.blk rfl rfl rfl fun sx => ?_
    simp (decide := true) only [RR, ms_app, toList_some, toList_none, if_true, if_false, true_and, and_true, cond_true, sm0, sm1, sm1l, sm2, lc_lt, lc_gt, lc_eq, Int.toNat_natCast, Int.reduceToNat, Nat.reduceAdd, Nat.reduceEqDiff, Int.reduceLT, Int.reduceEq, Int.reduceNeg, Int.reduceAdd, Int.reduceMul, Nat.reduceMul, ms_n, ms_i, ms_l, ms_p, PX]
    refine hK _ ⟨(((f.setr rfl).setr rfl).set rfl).setr rfl, L + 1, rfl, by omega, by omega, fun k hk => ?_, fun j h1 h2 => ⟨?_, ?_⟩, fun j hj => ?_⟩
    · rw [ms_row (by decide), ms_row (by decide), ms_app, if_pos rfl, if_neg (by omega), ms_row (by decide)]
      exact a3 k hk
    · rw [ms_row (by decide), ms_row (by decide), ms_row (by decide), ms_app, if_pos rfl, if_neg (by omega)]
      exact (a4 j h1 (by omega)).1
    · rw [ms_app, if_pos rfl, if_neg (by omega), ms_row (by decide), ms_row (by decide), ms_row (by decide)]
      exact (a4 j h1 (by omega)).2
    · by_cases e : j = r
      · subst e
        refine Or.inr ⟨c, L, ?_, ?_, by omega, ?_⟩
        · rw [ms_row (by decide), ms_row (by decide), ms_row (by decide), ms_app, if_pos rfl, if_pos rfl]
        · rw [ms_app, if_pos rfl, if_pos rfl]; omega
        · rw [ms_row (by decide), ms_row (by decide), ms_app, if_pos rfl, if_pos rfl]
      · have e17 : mj_set (mj_set (mj_set (mj_set σ 17 r (L : Int)) 16 L (cyU r)) 15 3 ((L + 1 : Nat) : Int)) 18 r ((L + 1 : Nat) : Int) 17 j = σ 17 j := by
          rw [ms_row (by decide), ms_row (by decide), ms_row (by decide), ms_app, if_pos rfl, if_neg e]
        have e18 : mj_set (mj_set (mj_set (mj_set σ 17 r (L : Int)) 16 L (cyU r)) 15 3 ((L + 1 : Nat) : Int)) 18 r ((L + 1 : Nat) : Int) 18 j = σ 18 j := by
          rw [ms_app, if_pos rfl, if_neg e, ms_row (by decide), ms_row (by decide), ms_row (by decide)]
        rw [e17, e18]
        rcases a5 j (by omega) with h | ⟨h1, a, h2, h3, h4, h5⟩
        · exact Or.inl h
        · refine Or.inr ⟨h1, a, h2, h3, by omega, ?_⟩
          rw [ms_row (by decide), ms_row (by decide), ms_app, if_pos rfl, if_neg (by omega), ms_row (by decide)]
          exact h5
theorem x_finish {d L0 : Nat} {σ : mM} {K : Option mV → mM → Prop} (hF : Fix σ) (hL : σ 15 3 = (L0 : Int)) (hL0 : L0 ≤ 1600) (hK : ∀ σ', cyF σ σ' L0 3 → K none σ') : Mt (d + 3) 2 [.inr (.inr 11)] σ K := by
  refine Mt.go (lv := [some (.inr (.inr 11))]) rfl rfl rfl ?_
  refine At.blk rfl rfl rfl fun sx => ?_
  simp (decide := true) only [RR, ms_app, toList_some, toList_none, if_true, if_false, true_and, and_true, cond_true, sm0, sm1, sm1l, sm2, lc_lt, lc_gt, lc_eq, Int.toNat_natCast, Int.reduceToNat, Nat.reduceAdd, Nat.reduceEqDiff, Int.reduceLT, Int.reduceEq, Int.reduceNeg, Int.reduceAdd, Int.reduceMul, Nat.reduceMul, ms_n, ms_i, ms_l, ms_p, PX, fxX hF]
  refine cal_of rfl (x_addUn (r := 0) hF (by decide) hL0 (cyF.start hL) (fun σ1 h1 => ?_))
  have hF1 := hF.fr h1.1 rfl
  simp (decide := true) only [RR, ms_app, toList_some, toList_none, if_true, if_false, true_and, and_true, cond_true, sm0, sm1, sm1l, sm2, lc_lt, lc_gt, lc_eq, Int.toNat_natCast, Int.reduceToNat, Nat.reduceAdd, Nat.reduceEqDiff, Int.reduceLT, Int.reduceEq, Int.reduceNeg, Int.reduceAdd, Int.reduceMul, Nat.reduceMul, ms_n, ms_i, ms_l, ms_p, PX, fxX hF1]
  refine cal_of rfl (x_addUn (r := 1) hF (by decide) hL0 h1 (fun σ2 h2 => ?_))
  have hF2 := hF.fr h2.1 rfl
  simp (decide := true) only [RR, ms_app, toList_some, toList_none, if_true, if_false, true_and, and_true, cond_true, sm0, sm1, sm1l, sm2, lc_lt, lc_gt, lc_eq, Int.toNat_natCast, Int.reduceToNat, Nat.reduceAdd, Nat.reduceEqDiff, Int.reduceLT, Int.reduceEq, Int.reduceNeg, Int.reduceAdd, Int.reduceMul, Nat.reduceMul, ms_n, ms_i, ms_l, ms_p, PX, fxX hF2]
  refine cal_of rfl (x_addUn (r := 2) hF (by decide) hL0 h2 (fun σ3 h3 => ?_))
  simp (decide := true) only [RR, ms_app, toList_some, toList_none, if_true, if_false, true_and, and_true, cond_true, sm0, sm1, sm1l, sm2, lc_lt, lc_gt, lc_eq, Int.toNat_natCast, Int.reduceToNat, Nat.reduceAdd, Nat.reduceEqDiff, Int.reduceLT, Int.reduceEq, Int.reduceNeg, Int.reduceAdd, Int.reduceMul, Nat.reduceMul, ms_n, ms_i, ms_l, ms_p, PX]
  exact hK σ3 h3
/-- the draft is clear -/
def cyZ (σ : mM) : Prop := (∀ p, p < 7 → σ 14 p = 0) ∧ (∀ r, r < 4 → σ 17 r = 0 ∧ σ 18 r = 0) ∧ σ 15 3 = 0 ∧ (σ 11 4 = 0 ∧ σ 11 5 = 0 ∧ σ 11 6 = 0 ∧ σ 11 7 = 0 ∧ σ 11 8 = 15 ∧ σ 11 9 = 0)
theorem cyZ.d {σ : mM} {s : Nat} (h : cyZ σ) : cyD σ s := by
  obtain ⟨h1, h2, h3, h4, h5, h6, h7, h8, h9⟩ := h
  unfold cyD
  rw [h3, h4, h5, h6, h7]
  exact ⟨by omega, by omega, by omega, by omega, fun p hp => by rw [h1 p hp]; omega, by omega⟩
/-- a statement with its end sign -/
def cyO (N : Nat) (t : Nat → Int) (s : Nat) (σ : mM) (s' : Nat) (τ : mM) : Prop := ∃ s2 g2, cyS N t s σ s2 g2 τ ∧ IsSg N t s2 59 ∧ Skp N t (s2 + 1) s'
def cyOx (N : Nat) (t : Nat → Int) (s : Nat) (σ : mM) (k x : Int) : Prop := cySx N t s σ k x ∨ ∃ s2 g2 τ, cyS N t s σ s2 g2 τ ∧ ¬IsSg N t s2 59 ∧ k = 1 ∧ x = (s2 : Int)
/-- m statements from s0 to s -/
def cySs (N : Nat) (t : Nat → Int) (s0 : Nat) (σ0 : mM) : Nat → Nat → mM → Prop
  | 0, s, σ => s = s0 ∧ σ = σ0
  | m + 1, s', σ' => ∃ s σ, cySs N t s0 σ0 m s σ ∧ s < N ∧ cyO N t s σ s' σ'
/-- a city that fails -/
def cyXx (N : Nat) (t : Nat → Int) (s0 : Nat) (σ0 : mM) (k x : Int) : Prop := k ≠ 0 ∧ ∃ m s σ, m ≤ 80 ∧ cySs N t s0 σ0 m s σ ∧ s < N ∧ ((m = 80 ∧ k = 5 ∧ x = (s : Int)) ∨ (m < 80 ∧ cyOx N t s σ k x))
theorem cySx.ne {s : Nat} {σ : mM} {k x : Int} (h : cySx N t s σ k x) : k ≠ 0 := by
  have na : ∀ {s g}, NaF N t s g k x → k ≠ 0 := fun h => by rw [h.1]; decide
  have no : ∀ {s g n}, cyNo N t σ s g n k x → k ≠ 0 := fun h => by
    rcases h with h | h
    · exact na h
    · rw [h.1]; decide
  rcases h with h | ⟨w, e, s1, -, -, h⟩
  · rw [h.1]; decide
  · rcases h with ⟨_, h⟩ | ⟨_, h⟩ | ⟨_, h⟩ | ⟨_, h⟩ | ⟨_, h⟩ | ⟨_, h⟩ | ⟨_, h⟩ | ⟨_, h⟩ | ⟨_, h⟩
    · obtain ⟨n, -, -, h | ⟨-, h | ⟨e, -, h | ⟨-, s2, -, h | ⟨e2, s3, -, -, h⟩⟩⟩⟩⟩ := h
      · rw [h.2.1]; decide
      · exact na h
      · rw [h.1]; decide
      · rw [h.1]; decide
      · exact h.ne
    · obtain ⟨n, m, -, -, -, -, h | ⟨-, h | ⟨e, a, s2, -, -, h | ⟨e2, b, -, h, -⟩⟩⟩⟩ := h
      · rw [h.2.1]; decide
      · exact no h
      · exact no h
      · rw [h]; decide
    · obtain ⟨n, -, -, h | ⟨e, p, -, h, -⟩⟩ := h
      · exact no h
      · rw [h]; decide
    · obtain ⟨n, -, -, h | ⟨e, p, -, h, -⟩⟩ := h
      · exact no h
      · rw [h]; decide
    · rcases h with h | h
      · rw [h.2.1]; decide
      · exact h.2.2.1
    · rcases h with h | h
      · rw [h.2.1]; decide
      · exact h.2.2.1
    · rcases h with h | h
      · rw [h.2.1]; decide
      · exact h.2.2.1
    · exact NmF.ne h
    · exact NmF.ne h
theorem x_parseCity {d : Nat} {σ : mM} {K : Option mV → mM → Prop} (hF : Fix σ) (hT : TxX σ N t)
    (h1 : ∀ σ' σ0 σ1 s0 m L, Fr cyL cyT σ σ' → Skp N t 0 s0 → cyZ σ0 → m ≤ 80 → cySs N t s0 σ0 m N σ1 → cyD σ1 N → σ1 15 3 = ((L : Nat) : Int) → cyF σ1 σ' L 3 → σ' 19 2 = 0 → σ' 19 3 = -1 → K (some (.inl (m : Int))) σ')
    (h0 : ∀ σ' σ0 s0 k x, Fr cyL cyT σ σ' → Skp N t 0 s0 → cyZ σ0 → cyXx N t s0 σ0 k x → σ' 19 2 = k → σ' 19 3 = x → K (some (.inl (-1))) σ') : Mt (d + 42) 34 [.inr (.inr 19)] σ K := by
  have n16 := hT.2.1
  refine Mt.go (lv := [some (.inr (.inr 19)), none]) rfl rfl rfl ?_
  refine At.blk rfl rfl rfl fun sx => ?_
  simp (decide := true) only [RR, ms_app, toList_some, toList_none, if_true, if_false, true_and, and_true, cond_true, sm0, sm1, sm1l, sm2, lc_lt, lc_gt, lc_eq, Int.toNat_natCast, Int.reduceToNat, Nat.reduceAdd, Nat.reduceEqDiff, Int.reduceLT, Int.reduceEq, Int.reduceNeg, Int.reduceAdd, Int.reduceMul, Nat.reduceMul, ms_n, ms_i, ms_l, ms_p, PX]
  refine cal_of rfl (x_restart hF hT (fun σ1 s0 f1 e2 e3 k0 x0 => ?_))
  have F1 : Fr cyL cyT σ σ1 := f1.mono rfl
  have hF1 := hF.fr F1 rfl
  simp (decide := true) only [RR, ms_app, toList_some, toList_none, if_true, if_false, true_and, and_true, cond_true, sm0, sm1, sm1l, sm2, lc_lt, lc_gt, lc_eq, Int.toNat_natCast, Int.reduceToNat, Nat.reduceAdd, Nat.reduceEqDiff, Int.reduceLT, Int.reduceEq, Int.reduceNeg, Int.reduceAdd, Int.reduceMul, Nat.reduceMul, ms_n, ms_i, ms_l, ms_p, PX, fxX hF1]
  refine cal_of rfl (x_dclear hF1 (fun σ2 f2 z1 z2 z3 z4 => ?_))
  have F2 : Fr cyL cyT σ σ2 := F1.trans (f2.mono rfl)
  have hZ : cyZ σ2 := ⟨z1, z2, z3, z4⟩
  have fin : ∀ (m : Nat) (σ' : mM), m ≤ 80 → Fr cyL cyT σ σ' → σ' 19 2 = 0 → σ' 19 3 = -1 → cyD σ' N → cySs N t s0 σ2 m N σ' → ∀ (K2 : mK), (∀ σ3 L, Fr cyL cyT σ σ3 → σ' 15 3 = ((L : Nat) : Int) → cyF σ' σ3 L 3 → σ3 19 2 = 0 → σ3 19 3 = -1 → K2 none 218 σ3) → mj_cal (d + 41) 218 2 [.inr (.inr 11)] 218 σ' K2 := by
    intro m σ' hm f u2 u3 hD hs K2 hK2
    obtain ⟨L, hL⟩ := Int.eq_ofNat_of_zero_le hD.2.2.2.2.2.1
    have Ls := hD.2.2.2.2.2.2
    refine cal_of rfl (x_finish (hF.fr f rfl) hL (by omega) (fun σ3 h3 => ?_))
    exact hK2 σ3 L (f.trans (h3.1.mono rfl)) hL h3 ((h3.1 19 2 rfl).trans u2) ((h3.1 19 3 rfl).trans u3)
  have loop : ∀ (j m s : Nat) (σ' : mM), 80 - m = j → m ≤ 80 → Fr cyL cyT σ σ' → TX σ' N t s false → σ' 19 2 = 0 → σ' 19 3 = -1 → cyD σ' s → cySs N t s0 σ2 m s σ' → At (d + 41) 34 1 [some (.inr (.inr 19)), some (.inl (m : Int))] [] σ' K := by
    intro j
    induction j with
    | zero =>
      intro m s σ' hj hm f x u2 u3 hD hs
      obtain rfl : m = 80 := by omega
      have hF' := hF.fr f rfl
      refine At.blk rfl rfl rfl fun sx => ?_
      simp (decide := true) only [RR, ms_app, toList_some, toList_none, if_true, if_false, true_and, and_true, cond_true, sm0, sm1, sm1l, sm2, lc_lt, lc_gt, lc_eq, Int.toNat_natCast, Int.reduceToNat, Nat.reduceAdd, Nat.reduceEqDiff, Int.reduceLT, Int.reduceEq, Int.reduceNeg, Int.reduceAdd, Int.reduceMul, Nat.reduceMul, ms_n, ms_i, ms_l, ms_p, PX]
      by_cases ck : σ' 20 1 = 0
      · have hN := x.end0 ck
        subst hN
        refine At.blk rfl rfl rfl fun sx => ?_
        simp (decide := true) only [RR, ms_app, toList_some, toList_none, if_true, if_false, true_and, and_true, cond_true, sm0, sm1, sm1l, sm2, lc_lt, lc_gt, lc_eq, Int.toNat_natCast, Int.reduceToNat, Nat.reduceAdd, Nat.reduceEqDiff, Int.reduceLT, Int.reduceEq, Int.reduceNeg, Int.reduceAdd, Int.reduceMul, Nat.reduceMul, ms_n, ms_i, ms_l, ms_p, PX, fxX hF', ck]
        refine At.blk rfl rfl rfl fun sx => ?_
        simp (decide := true) only [RR, ms_app, toList_some, toList_none, if_true, if_false, true_and, and_true, cond_true, sm0, sm1, sm1l, sm2, lc_lt, lc_gt, lc_eq, Int.toNat_natCast, Int.reduceToNat, Nat.reduceAdd, Nat.reduceEqDiff, Int.reduceLT, Int.reduceEq, Int.reduceNeg, Int.reduceAdd, Int.reduceMul, Nat.reduceMul, ms_n, ms_i, ms_l, ms_p, PX, fxX hF']
        refine fin 80 σ' hm f u2 u3 hD hs _ (fun σ3 L f3 hL h3 v2 v3 => ?_)
        simp (decide := true) only [RR, ms_app, toList_some, toList_none, if_true, if_false, true_and, and_true, cond_true, sm0, sm1, sm1l, sm2, lc_lt, lc_gt, lc_eq, Int.toNat_natCast, Int.reduceToNat, Nat.reduceAdd, Nat.reduceEqDiff, Int.reduceLT, Int.reduceEq, Int.reduceNeg, Int.reduceAdd, Int.reduceMul, Nat.reduceMul, ms_n, ms_i, ms_l, ms_p, PX]
        exact h1 σ3 σ2 σ' s0 80 L f3 k0 hZ hm hs hD hL h3 v2 v3
      · refine At.blk rfl rfl rfl fun sx => ?_
        simp (decide := true) only [RR, ms_app, toList_some, toList_none, if_true, if_false, true_and, and_true, cond_true, sm0, sm1, sm1l, sm2, lc_lt, lc_gt, lc_eq, Int.toNat_natCast, Int.reduceToNat, Nat.reduceAdd, Nat.reduceEqDiff, Int.reduceLT, Int.reduceEq, Int.reduceNeg, Int.reduceAdd, Int.reduceMul, Nat.reduceMul, ms_n, ms_i, ms_l, ms_p, PX, fxX hF', x.st]
        rw [if_neg ck]
        refine cal_of rfl (x_fail ?_)
        simp (decide := true) only [RR, ms_app, toList_some, toList_none, if_true, if_false, true_and, and_true, cond_true, sm0, sm1, sm1l, sm2, lc_lt, lc_gt, lc_eq, Int.toNat_natCast, Int.reduceToNat, Nat.reduceAdd, Nat.reduceEqDiff, Int.reduceLT, Int.reduceEq, Int.reduceNeg, Int.reduceAdd, Int.reduceMul, Nat.reduceMul, ms_n, ms_i, ms_l, ms_p, PX]
        exact h0 _ σ2 s0 5 s ((f.set rfl).set rfl) k0 hZ ⟨by decide, 80, s, σ', hm, hs, x.end1 ck, Or.inl ⟨rfl, rfl, rfl⟩⟩ rfl rfl
    | succ j ih =>
      intro m s σ' hj hm f x u2 u3 hD hs
      have hF' := hF.fr f rfl
      have hT' : TxX σ' N t := hT.cg (f 1 1 rfl) (f.row 2 rfl)
      have w1 : Unit → w32 ((m : Int) + 1) = ((m + 1 : Nat) : Int) := fun _ => by rw [w32_small (by omega) (by omega)]; omega
      refine At.blk rfl rfl rfl fun sx => ?_
      simp (decide := true) only [RR, ms_app, toList_some, toList_none, if_true, if_false, true_and, and_true, cond_true, sm0, sm1, sm1l, sm2, lc_lt, lc_gt, lc_eq, Int.toNat_natCast, Int.reduceToNat, Nat.reduceAdd, Nat.reduceEqDiff, Int.reduceLT, Int.reduceEq, Int.reduceNeg, Int.reduceAdd, Int.reduceMul, Nat.reduceMul, ms_n, ms_i, ms_l, ms_p, PX, fxX hF']
      rw [if_pos (by omega)]
      by_cases ck : σ' 20 1 = 0
      · have hN := x.end0 ck
        subst hN
        rw [if_pos ck]
        refine fin m σ' hm f u2 u3 hD hs _ (fun σ3 L f3 hL h3 v2 v3 => ?_)
        simp (decide := true) only [RR, ms_app, toList_some, toList_none, if_true, if_false, true_and, and_true, cond_true, sm0, sm1, sm1l, sm2, lc_lt, lc_gt, lc_eq, Int.toNat_natCast, Int.reduceToNat, Nat.reduceAdd, Nat.reduceEqDiff, Int.reduceLT, Int.reduceEq, Int.reduceNeg, Int.reduceAdd, Int.reduceMul, Nat.reduceMul, ms_n, ms_i, ms_l, ms_p, PX]
        exact h1 σ3 σ2 σ' s0 m L f3 k0 hZ hm hs hD hL h3 v2 v3
      · rw [if_neg ck]
        have three : ∀ σ3 k p, Fr cyL cyT σ σ3 → cyOx N t s σ' k p → k ≠ 0 → σ3 19 2 = k → σ3 19 3 = p → At (d + 41) 34 3 [some (.inr (.inr 19)), some (.inl (m : Int))] [] σ3 K := by
          intro σ3 k p a1 a2 a3 a4 a5
          refine At.blk rfl rfl rfl fun sx => ?_
          simp (decide := true) only [RR, ms_app, toList_some, toList_none, if_true, if_false, true_and, and_true, cond_true, sm0, sm1, sm1l, sm2, lc_lt, lc_gt, lc_eq, Int.toNat_natCast, Int.reduceToNat, Nat.reduceAdd, Nat.reduceEqDiff, Int.reduceLT, Int.reduceEq, Int.reduceNeg, Int.reduceAdd, Int.reduceMul, Nat.reduceMul, ms_n, ms_i, ms_l, ms_p, PX]
          exact h0 σ3 σ2 s0 k p a1 k0 hZ ⟨a3, m, s, σ', hm, hs, x.end1 ck, Or.inr ⟨by omega, a2⟩⟩ a4 a5
        refine At.blk rfl rfl rfl fun sx => ?_
        simp (decide := true) only [RR, ms_app, toList_some, toList_none, if_true, if_false, true_and, and_true, cond_true, sm0, sm1, sm1l, sm2, lc_lt, lc_gt, lc_eq, Int.toNat_natCast, Int.reduceToNat, Nat.reduceAdd, Nat.reduceEqDiff, Int.reduceLT, Int.reduceEq, Int.reduceNeg, Int.reduceAdd, Int.reduceMul, Nat.reduceMul, ms_n, ms_i, ms_l, ms_p, PX]
        refine cal_of rfl (x_statement hF' hT' x hD (fun σ3 s3 g3 f3 x3 hlt v2 v3 hD3 hS => ?_) (fun σ3 k p f3 v2 v3 hS => ?_))
        · have F3 := f.trans f3
          have hF3 := hF.fr F3 rfl
          have hT3 : TxX σ3 N t := hT.cg (F3 1 1 rfl) (F3.row 2 rfl)
          simp (decide := true) only [RR, ms_app, toList_some, toList_none, if_true, if_false, true_and, and_true, cond_true, sm0, sm1, sm1l, sm2, lc_lt, lc_gt, lc_eq, Int.toNat_natCast, Int.reduceToNat, Nat.reduceAdd, Nat.reduceEqDiff, Int.reduceLT, Int.reduceEq, Int.reduceNeg, Int.reduceAdd, Int.reduceMul, Nat.reduceMul, ms_n, ms_i, ms_l, ms_p, PX]
          refine cal_of rfl (x_takeSign (c := 59) hF3 hT3 (by unfold sgn; decide) x3 (fun σ4 s4 hi k4 f4 x4 => ?_) (fun hi => ?_))
          · have z4 := k4.1
            simp (decide := true) only [RR, ms_app, toList_some, toList_none, if_true, if_false, true_and, and_true, cond_true, sm0, sm1, sm1l, sm2, lc_lt, lc_gt, lc_eq, Int.toNat_natCast, Int.reduceToNat, Nat.reduceAdd, Nat.reduceEqDiff, Int.reduceLT, Int.reduceEq, Int.reduceNeg, Int.reduceAdd, Int.reduceMul, Nat.reduceMul, ms_n, ms_i, ms_l, ms_p, PX]
            refine At.blk rfl rfl rfl fun sx => ?_
            simp (decide := true) only [RR, ms_app, toList_some, toList_none, if_true, if_false, true_and, and_true, cond_true, sm0, sm1, sm1l, sm2, lc_lt, lc_gt, lc_eq, Int.toNat_natCast, Int.reduceToNat, Nat.reduceAdd, Nat.reduceEqDiff, Int.reduceLT, Int.reduceEq, Int.reduceNeg, Int.reduceAdd, Int.reduceMul, Nat.reduceMul, ms_n, ms_i, ms_l, ms_p, PX, w1 ()]
            refine ih (m + 1) s4 σ4 (by omega) (by omega) (F3.trans (f4.mono rfl)) x4 ?_ ?_ (hD3.cg (cyE.tk f4) (by omega)) ⟨s, σ', hs, x.end1 ck, s3, g3, hS.cg (cyE.tk f4), hi, k4⟩
            · rw [f4 19 2 rfl, v2]; exact u2
            · rw [f4 19 3 rfl, v3]; exact u3
          · simp (decide := true) only [RR, ms_app, toList_some, toList_none, if_true, if_false, true_and, and_true, cond_true, sm0, sm1, sm1l, sm2, lc_lt, lc_gt, lc_eq, Int.toNat_natCast, Int.reduceToNat, Nat.reduceAdd, Nat.reduceEqDiff, Int.reduceLT, Int.reduceEq, Int.reduceNeg, Int.reduceAdd, Int.reduceMul, Nat.reduceMul, ms_n, ms_i, ms_l, ms_p, PX]
            exact three _ 1 s3 ((F3.set rfl).set rfl) (Or.inr ⟨s3, g3, σ3, hS, hi, rfl, rfl⟩) (by decide) rfl rfl
        · simp (decide := true) only [RR, ms_app, toList_some, toList_none, if_true, if_false, true_and, and_true, cond_true, sm0, sm1, sm1l, sm2, lc_lt, lc_gt, lc_eq, Int.toNat_natCast, Int.reduceToNat, Nat.reduceAdd, Nat.reduceEqDiff, Int.reduceLT, Int.reduceEq, Int.reduceNeg, Int.reduceAdd, Int.reduceMul, Nat.reduceMul, ms_n, ms_i, ms_l, ms_p, PX]
          exact three σ3 k p (f.trans f3) (Or.inl hS) hS.ne v2 v3
  simp (decide := true) only [RR, ms_app, toList_some, toList_none, if_true, if_false, true_and, and_true, cond_true, sm0, sm1, sm1l, sm2, lc_lt, lc_gt, lc_eq, Int.toNat_natCast, Int.reduceToNat, Nat.reduceAdd, Nat.reduceEqDiff, Int.reduceLT, Int.reduceEq, Int.reduceNeg, Int.reduceAdd, Int.reduceMul, Nat.reduceMul, ms_n, ms_i, ms_l, ms_p, PX]
  exact loop 80 0 s0 σ2 rfl (by decide) F2 (x0.cg (f2.row 20 rfl)) ((f2 19 2 rfl).trans e2) ((f2 19 3 rfl).trans e3) hZ.d ⟨rfl, rfl⟩
end
