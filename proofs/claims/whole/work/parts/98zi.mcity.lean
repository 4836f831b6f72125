def mciU : List (Nat × Nat) := [(146, 1), (146, 2), (146, 3), (146, 4), (146, 5), (146, 6), (146, 7), (146, 8), (146, 34), (146, 44), (146, 45), (146, 46), (146, 89), (146, 91), (146, 92), (146, 93), (148, 1)]
def mciL : List Nat := [173, 174, 175, 176, 177, 178, 179, 180, 181, 182, 214, 215]
def mciT : List (Nat × Nat) := [(146, 1), (146, 2), (146, 3), (146, 4), (146, 5), (146, 6), (146, 7), (146, 8), (146, 34), (146, 44), (146, 45), (146, 46), (146, 58), (146, 65), (146, 89), (146, 91), (146, 92), (146, 93)]
/-- the sum r: the class's draft, the model's city -/
def cyTr (σ μ : mM) (c r : Nat) : Prop := (¬(σ 17 r < σ 18 r) ∧ μ 179 (3 + r) = -1) ∨ (∃ a b : Nat, a < b ∧ b ≤ c ∧ σ 17 r = (a : Int) ∧ σ 18 r = (b : Int) ∧ μ 179 (3 + r) = (a : Int) ∧ μ 180 (3 + r) = (b : Int) ∧ (∀ j, j < b - a → CStepR (if r = 2 then 6 else 5) (σ 16 (a + j)) (μ 181 (1600 + (a + j)))) ∧ hts 64 (codesOf μ 181 (1600 + a) (b - a)) 0 = some 1)
/-- the class's draft, the model's city and sky -/
def cyTp (σ μ : mM) : Prop := ∃ n m c : Nat, n ≤ 7 ∧ m ≤ 12 ∧ c ≤ 1600 ∧ (σ 11 4 = (n : Int) ∧ μ 173 2 = (n : Int)) ∧ (σ 11 5 = (m : Int) ∧ μ 173 3 = (m : Int)) ∧ σ 15 3 = (c : Int) ∧ (0 ≤ σ 11 6 ∧ σ 11 6 < 2 ^ n) ∧ (0 ≤ σ 11 7 ∧ σ 11 7 < 2 ^ n) ∧ (μ 178 2 = σ 11 8 ∧ 1 ≤ σ 11 8 ∧ σ 11 8 ≤ 20) ∧ (μ 178 3 = σ 11 9 ∧ 0 ≤ σ 11 9 ∧ σ 11 9 ≤ 100) ∧ (∀ p, p < n → NameR (σ 12 p) (μ 174 (7 + p)) ∧ μ 176 (7 + p) = σ 14 p ∧ 0 ≤ σ 14 p ∧ σ 14 p < 2 ^ n) ∧ (∀ r, r < 3 → cyTr σ μ c r) ∧ (μ 182 0 = 0 ∧ μ 182 29 = 0) ∧ ∀ p, p < n → (μ 182 (1 + 4 * p) = σ 13 p ∧ 0 ≤ σ 13 p ∧ σ 13 p ≤ 20) ∧ μ 182 (2 + 4 * p) = bit (σ 11 6) p ∧ μ 182 (3 + 4 * p) = bit (σ 11 7) p ∧ μ 182 (4 + 4 * p) = -1
section
variable {d : Nat} {μ : mM} {K : Option mV → mM → Prop} {N : Nat} {t : Nat → Int}
theorem cyZ.r {σ μ : mM} {s : Nat} (h : cyZ σ) (e44 : μ 146 44 = 0) (z1 : ∀ k, k < 2 → μ 173 k = 0 ∧ μ 177 k = 0) (z2 : ∀ k, k < 7 → μ 176 k = 0) (z3 : ∀ k, k < 3 → μ 179 k = -1) (z4 : μ 178 0 = 15) (z5 : μ 178 1 = 0) : cyR σ μ s := by
  obtain ⟨h1, h2, h3, h4, h5, h6, h7, h8, h9⟩ := h
  refine ⟨0, 0, 0, by decide, by decide, Nat.zero_le _, ⟨h4, (z1 0 (by decide)).1⟩, ⟨h5, (z1 1 (by decide)).1⟩, ⟨h3, e44⟩, ⟨?_, ?_⟩, ⟨?_, ?_⟩, ⟨?_, ?_⟩, ⟨?_, ?_⟩, fun p hp => absurd hp (by omega), fun p hp => ?_, fun r hr => Or.inl ⟨?_, z3 r hr⟩⟩
  · rw [h6]; exact (z1 0 (by decide)).2
  · rw [h6]; decide
  · rw [h7]; exact (z1 1 (by decide)).2
  · rw [h7]; decide
  · rw [h8]; exact z4
  · rw [h8]; decide
  · rw [h9]; exact z5
  · rw [h9]; decide
  · rw [h1 p hp, z2 p hp]; decide
  · rw [(h2 r (by omega)).1, (h2 r (by omega)).2]; decide
theorem m_city (hF : Fix μ) (e1 : μ 146 1 = (N : Int)) (n16 : N ≤ 1600) (ht : ∀ k, k < N → μ 147 k = t k ∧ 0 ≤ t k ∧ t k ≤ 255)
    (H : (∃ σ0 s0 m σ1, Skp N t 0 s0 ∧ cyZ σ0 ∧ m ≤ 80 ∧ cySs N t s0 σ0 m N σ1 ∧ ∀ μ', Fr mciL mciT μ μ' → cyTp σ1 μ' → μ' 146 1 = 0 → μ' 146 7 = 0 → μ' 146 8 = -1 → μ' 146 65 = 0 → μ' 146 58 = 0 → K (some (.inl (m : Int))) μ') ∨
      (∃ σ0 s0 k x, Skp N t 0 s0 ∧ cyZ σ0 ∧ cyXx N t s0 σ0 k x ∧ ∀ μ', cyK mciU μ μ' → μ' 146 1 = 0 → μ' 146 7 = k → μ' 146 8 = x → μ' 148 1 = w32 (μ 148 1 + 1) → K (some (.inl (-1))) μ')) : Mt (d + 15) 175 [.inr (.inr 146)] μ K := by
  refine m_cityStart hF e1 (fun μ0 i F0 E0 z1 z2 z3 z4 z5 y1 y2 y3 => ?_)
  have K0 : cyK mciU μ μ0 := by
    intro q k a b
    by_cases c1 : q = 173
    · subst c1; exact (y1 k (by unfold cyQ at b; omega)).1
    by_cases c2 : q = 176
    · subst c2; exact y2 k (by unfold cyQ at b; omega)
    by_cases c3 : q = 178
    · subst c3; exact (y1 k (by unfold cyQ at b; omega)).2.2
    by_cases c4 : q = 179
    · subst c4; exact y3 k (by unfold cyQ at b; omega)
    have f : Fr [173, 176, 178, 179, 175, 177, 214, 215] mciU μ μ0 := F0.mono rfl
    refine f q k ?_
    simp only [List.elem_cons, show (q == 173) = false from beq_eq_false_iff_ne.mpr c1, show (q == 176) = false from beq_eq_false_iff_ne.mpr c2, show (q == 178) = false from beq_eq_false_iff_ne.mpr c3, show (q == 179) = false from beq_eq_false_iff_ne.mpr c4]
    exact a
  obtain ⟨b3, b1, b2, b4, b5, b6, b45, b44⟩ := E0
  have hF0 := hF.fr F0 rfl
  have hT0 : TxM μ0 N t := ⟨b3, n16, fun k hk => by rw [F0.row 147 rfl]; exact ht k hk⟩
  have fixt : ∀ μ', cyK cmU μ0 μ' → Fix μ' ∧ TxM μ' N t := fun μ' k => ⟨hF0.fr k.fr rfl, hT0.cg (k.fr 146 3 rfl) (k.fr.row 147 rfl)⟩
  -- one more statement
  have one : ∀ (m s : Nat) (σ μ' : mM) (K2 : Option mV → mM → Prop), m < 80 → s < N → cyK cmU μ0 μ' → PosM μ' N t s false → μ' 146 5 = 0 → μ' 146 6 = -1 → μ' 146 45 = (m : Int) → cyR σ μ' s →
      ((∃ s' τ, cyO N t s σ s' τ ∧ ∀ μ2, cyK cmU μ0 μ2 → PosM μ2 N t s' false → μ2 146 5 = 0 → μ2 146 6 = -1 → μ2 146 45 = ((m + 1 : Nat) : Int) → cyR τ μ2 s' → At (d + 14) 175 7 [some (.inr (.inr 146)), some (.inl i)] [] μ2 K) ∨ (∃ k x, cyOx N t s σ k x ∧ ∀ μ2, cyK cmU μ0 μ2 → μ2 146 5 = k → μ2 146 6 = x → At (d + 14) 175 7 [some (.inr (.inr 146)), some (.inl i)] [] μ2 K)) → At (d + 14) 175 7 [some (.inr (.inr 146)), some (.inl i)] [] μ' K := by
    intro m s σ μ' K2 hm sN k0 p0 c5 c6 c45 hR HH
    obtain ⟨hF', hT'⟩ := fixt μ' k0
    have hc : chr0 N t s ≠ -1 := by
      unfold chr0
      rw [if_pos sN]
      have := (ht s sN).2
      omega
    refine At.blk rfl rfl rfl fun sx => ?_
    simp (decide := true) only [RR, ms_app, toList_some, toList_none, if_true, if_false, true_and, and_true, cond_true, sm0, sm1, sm1l, sm2, lc_lt, lc_gt, lc_eq, Int.toNat_natCast, Int.reduceToNat, Nat.reduceAdd, Nat.reduceEqDiff, Int.reduceLT, Int.reduceEq, Int.reduceNeg, Int.reduceAdd, Int.reduceMul, Nat.reduceMul, ms_n, ms_i, ms_l, ms_p, PM, c5]
    refine cal_of rfl (m_look hF' hT' p0 (fun μ2 f2 pA => ?_))
    have k2 : cyK cmU μ0 μ2 := k0.trans (cyK.of (f2.mono rfl))
    obtain ⟨hF2, hT2⟩ := fixt μ2 k2
    simp (decide := true) only [RR, ms_app, toList_some, toList_none, if_true, if_false, true_and, and_true, cond_true, sm0, sm1, sm1l, sm2, lc_lt, lc_gt, lc_eq, Int.toNat_natCast, Int.reduceToNat, Nat.reduceAdd, Nat.reduceEqDiff, Int.reduceLT, Int.reduceEq, Int.reduceNeg, Int.reduceAdd, Int.reduceMul, Nat.reduceMul, ms_n, ms_i, ms_l, ms_p, PM]
    rw [if_neg hc]
    refine cal_of rfl (Mt.mono (m_stmt (d := d + 1) (K := fun r' μ3 => r' = none ∧ At (d + 14) 175 7 [some (.inr (.inr 146)), some (.inl i)] [] μ3 K) hF2 hT2 ((f2 146 5 rfl).trans c5) ((f2 146 6 rfl).trans c6) pA (hR.cg cyE.refl (f2.mono rfl) (Nat.le_refl _)) ((f2 146 45 rfl).trans c45) hm ?_) (fun r' μ3 hq => ?_))
    · rcases HH with ⟨s', τ, hO, hK⟩ | ⟨k, x, hO, hK⟩
      · exact Or.inl ⟨s', τ, hO, fun μ3 k3 p3 d5 d6 d45 r3 => ⟨rfl, hK μ3 (k2.trans k3) p3 d5 d6 d45 r3⟩⟩
      · exact Or.inr ⟨k, x, hO, fun μ3 k3 d5 d6 => ⟨rfl, hK μ3 (k2.trans k3) d5 d6⟩⟩
    · obtain ⟨rfl, hq⟩ := hq
      simp (decide := true) only [RR, ms_app, toList_some, toList_none, if_true, if_false, true_and, and_true, cond_true, sm0, sm1, sm1l, sm2, lc_lt, lc_gt, lc_eq, Int.toNat_natCast, Int.reduceToNat, Nat.reduceAdd, Nat.reduceEqDiff, Int.reduceLT, Int.reduceEq, Int.reduceNeg, Int.reduceAdd, Int.reduceMul, Nat.reduceMul, ms_n, ms_i, ms_l, ms_p, PM]
      exact hq
  have walk : ∀ (σ0 : mM) (s0 : Nat), Skp N t 0 s0 → cyZ σ0 → ∀ (m s : Nat) (σ : mM), m ≤ 80 → cySs N t s0 σ0 m s σ → (∀ μ', cyK cmU μ0 μ' → PosM μ' N t s false → μ' 146 5 = 0 → μ' 146 6 = -1 → μ' 146 45 = (m : Int) → cyR σ μ' s → At (d + 14) 175 7 [some (.inr (.inr 146)), some (.inl i)] [] μ' K) → At (d + 14) 175 7 [some (.inr (.inr 146)), some (.inl i)] [] μ0 K := by
    intro σ0 s0 hk hz m
    induction m with
    | zero =>
      intro s σ hm hs hK
      obtain ⟨rfl, rfl⟩ := hs
      refine hK μ0 cyK.same ⟨⟨0, b2, hk⟩, by rw [b4]; omega, fun _ _ => ?_⟩ b5 b6 b45 (hz.r b44 z1 z2 z3 z4 z5)
      rw [b4]
      constructor
      · intro h; cases h
      · intro h; omega
    | succ m ih =>
      intro s σ hm hs hK
      obtain ⟨s1, σ1, h1, sN, hO⟩ := hs
      exact ih s1 σ1 (by omega) h1 (fun μ' k0 p0 c5 c6 c45 hR => one m s1 σ1 μ' K (by omega) sN k0 p0 c5 c6 c45 hR (Or.inl ⟨s, σ, hO, fun μ2 k2 p2 d5 d6 d45 r2 => hK μ2 k2 p2 d5 d6 d45 r2⟩))
  rcases H with ⟨σ0, s0, m, σ1, hk, hz, hm, hs, hK⟩ | ⟨σ0, s0, k, x, hk, hz, ⟨hne, m, s, σ, hm, hs, sN, hh⟩, hK⟩
  · refine walk σ0 s0 hk hz m N σ1 hm hs (fun μ' k0 p0 c5 c6 c45 hR => ?_)
    obtain ⟨hF', hT'⟩ := fixt μ' k0
    have hc : chr0 N t N = -1 := by
      unfold chr0
      rw [if_neg (by omega)]
    refine At.blk rfl rfl rfl fun sx => ?_
    simp (decide := true) only [RR, ms_app, toList_some, toList_none, if_true, if_false, true_and, and_true, cond_true, sm0, sm1, sm1l, sm2, lc_lt, lc_gt, lc_eq, Int.toNat_natCast, Int.reduceToNat, Nat.reduceAdd, Nat.reduceEqDiff, Int.reduceLT, Int.reduceEq, Int.reduceNeg, Int.reduceAdd, Int.reduceMul, Nat.reduceMul, ms_n, ms_i, ms_l, ms_p, PM, c5]
    refine cal_of rfl (m_look hF' hT' p0 (fun μ2 f2 pA => ?_))
    have k2 : cyK cmU μ0 μ2 := k0.trans (cyK.of (f2.mono rfl))
    obtain ⟨hF2, hT2⟩ := fixt μ2 k2
    have d5 : μ2 146 5 = 0 := (f2 146 5 rfl).trans c5
    have d6 : μ2 146 6 = -1 := (f2 146 6 rfl).trans c6
    have d45 : μ2 146 45 = (m : Int) := (f2 146 45 rfl).trans c45
    have R2 : cyR σ1 μ2 N := hR.cg cyE.refl (f2.mono rfl) (Nat.le_refl _)
    simp (decide := true) only [RR, ms_app, toList_some, toList_none, if_true, if_false, true_and, and_true, cond_true, sm0, sm1, sm1l, sm2, lc_lt, lc_gt, lc_eq, Int.toNat_natCast, Int.reduceToNat, Nat.reduceAdd, Nat.reduceEqDiff, Int.reduceLT, Int.reduceEq, Int.reduceNeg, Int.reduceAdd, Int.reduceMul, Nat.reduceMul, ms_n, ms_i, ms_l, ms_p, PM, hc]
    refine At.blk rfl rfl rfl fun sx => ?_
    simp (decide := true) only [RR, ms_app, toList_some, toList_none, if_true, if_false, true_and, and_true, cond_true, sm0, sm1, sm1l, sm2, lc_lt, lc_gt, lc_eq, Int.toNat_natCast, Int.reduceToNat, Nat.reduceAdd, Nat.reduceEqDiff, Int.reduceLT, Int.reduceEq, Int.reduceNeg, Int.reduceAdd, Int.reduceMul, Nat.reduceMul, ms_n, ms_i, ms_l, ms_p, PM, d5, d6]
    obtain ⟨n2, m2, c2, r01, r02, r03, r1, r2, r3, r4, r5, r6, r7, r8, r9, r10⟩ := R2
    have p7 := pow_le r01
    have hF3 : Fix (mj_set (mj_set μ2 146 7 0) 146 8 (-1)) := hF2.fr ((Fr.same (L := []) (T := mciT)).set rfl |>.set rfl) rfl
    have g1 : μ2 146 1 = 0 := (k2.fr 146 1 rfl).trans b1
    refine At.blk rfl rfl rfl fun sx => ?_
    simp (decide := true) only [RR, ms_app, toList_some, toList_none, if_true, if_false, true_and, and_true, cond_true, sm0, sm1, sm1l, sm2, lc_lt, lc_gt, lc_eq, Int.toNat_natCast, Int.reduceToNat, Nat.reduceAdd, Nat.reduceEqDiff, Int.reduceLT, Int.reduceEq, Int.reduceNeg, Int.reduceAdd, Int.reduceMul, Nat.reduceMul, ms_n, ms_i, ms_l, ms_p, PM]
    refine cal_of rfl (m_stands (n := n2) (c := c2) hF3 r1.2 r01 r3.2 (by omega) (by show 0 ≤ μ2 177 0 ∧ μ2 177 0 < 128; rw [r4.1]; omega) (by show 0 ≤ μ2 177 1 ∧ μ2 177 1 < 128; rw [r5.1]; omega) (fun μ4 f4 h1 h2 h3 h4 h5 h6 h7 => ?_))
    have e45 : μ4 146 45 = (m : Int) := (f4 146 45 rfl).trans d45
    simp (decide := true) only [RR, ms_app, toList_some, toList_none, if_true, if_false, true_and, and_true, cond_true, sm0, sm1, sm1l, sm2, lc_lt, lc_gt, lc_eq, Int.toNat_natCast, Int.reduceToNat, Nat.reduceAdd, Nat.reduceEqDiff, Int.reduceLT, Int.reduceEq, Int.reduceNeg, Int.reduceAdd, Int.reduceMul, Nat.reduceMul, ms_n, ms_i, ms_l, ms_p, PM, e45]
    have FF : Fr mciL mciT μ μ4 := ((((F0.mono rfl).trans (k2.fr.mono rfl)).set rfl).set rfl).trans (f4.mono rfl)
    refine hK μ4 FF ?_ ((f4 146 1 rfl).trans g1) (f4 146 7 rfl) (f4 146 8 rfl) h6 h7
    refine ⟨n2, m2, c2, r01, r02, by omega, ⟨r1.1, (h1 0 (by decide)).1.trans r1.2⟩, ⟨r2.1, (h1 1 (by decide)).1.trans r2.2⟩, r3.1, r4.2, r5.2, ⟨(h1 0 (by decide)).2.trans r6.1, r6.2⟩, ⟨(h1 1 (by decide)).2.trans r7.1, r7.2⟩, fun p hp => ?_, fun r hr => ?_, ⟨h5.1, h5.2.1⟩, fun p hp => ?_⟩
    · rw [(h2 p (by omega)).1, (h2 p (by omega)).2]
      exact ⟨(r8 p hp).1, (r9 p (by omega))⟩
    · rcases r10 r hr with ⟨x1, x2⟩ | ⟨a, b, x1, x2, x3, x4, x5, x6, x7, x8⟩
      · exact Or.inl ⟨x1, (h3 r hr).1.trans x2⟩
      · refine Or.inr ⟨a, b, x1, x2, x3, x4, (h3 r hr).1.trans x5, (h3 r hr).2.trans x6, fun j hj => ?_, ?_⟩
        · rw [h4 _ (by omega)]
          exact x7 j hj
        · rw [← x8]
          congr 1
          unfold codesOf
          refine List.map_congr_left (fun j hj => ?_)
          rw [List.mem_range] at hj
          rw [Nat.add_assoc]
          exact h4 _ (by omega)
    · obtain ⟨y1, y2, y3, y4⟩ := h5.2.2 p hp
      refine ⟨⟨y1.trans (r8 p hp).2.1, (r8 p hp).2.2⟩, ?_, ?_, y4⟩
      · rw [y2]
        show bit (μ2 177 0) p = _
        rw [r4.1]
      · rw [y3]
        show bit (μ2 177 1) p = _
        rw [r5.1]
  · have bad : ∀ μ', cyK cmU μ0 μ' → μ' 146 5 = k → μ' 146 6 = x → At (d + 14) 175 7 [some (.inr (.inr 146)), some (.inl i)] [] μ' K := by
      intro μ' k0 c5 c6
      obtain ⟨hF', hT'⟩ := fixt μ' k0
      have g1 : μ' 146 1 = 0 := (k0.fr 146 1 rfl).trans b1
      have g148 : μ' 148 = μ 148 := by rw [k0.fr.row 148 rfl, F0.row 148 rfl]
      refine At.blk rfl rfl rfl fun sx => ?_
      simp (decide := true) only [RR, ms_app, toList_some, toList_none, if_true, if_false, true_and, and_true, cond_true, sm0, sm1, sm1l, sm2, lc_lt, lc_gt, lc_eq, Int.toNat_natCast, Int.reduceToNat, Nat.reduceAdd, Nat.reduceEqDiff, Int.reduceLT, Int.reduceEq, Int.reduceNeg, Int.reduceAdd, Int.reduceMul, Nat.reduceMul, ms_n, ms_i, ms_l, ms_p, PM, c5]
      rw [if_neg hne]
      refine At.blk rfl rfl rfl fun sx => ?_
      simp (decide := true) only [RR, ms_app, toList_some, toList_none, if_true, if_false, true_and, and_true, cond_true, sm0, sm1, sm1l, sm2, lc_lt, lc_gt, lc_eq, Int.toNat_natCast, Int.reduceToNat, Nat.reduceAdd, Nat.reduceEqDiff, Int.reduceLT, Int.reduceEq, Int.reduceNeg, Int.reduceAdd, Int.reduceMul, Nat.reduceMul, ms_n, ms_i, ms_l, ms_p, PM, fxM hF', c5, c6, g148]
      rw [if_neg hne]
      exact hK _ (((K0.trans (k0.mono rfl)).trans (cyK.of (((Fr.same.set rfl).set rfl).set rfl)))) g1 rfl rfl rfl
    refine walk σ0 s0 hk hz m s σ hm hs (fun μ' k0 p0 c5 c6 c45 hR => ?_)
    rcases hh with ⟨rfl, rfl, rfl⟩ | ⟨hm2, hO⟩
    · obtain ⟨hF', hT'⟩ := fixt μ' k0
      have hc : chr0 N t s ≠ -1 := by
        unfold chr0
        rw [if_pos sN]
        have := (ht s sN).2
        omega
      refine At.blk rfl rfl rfl fun sx => ?_
      simp (decide := true) only [RR, ms_app, toList_some, toList_none, if_true, if_false, true_and, and_true, cond_true, sm0, sm1, sm1l, sm2, lc_lt, lc_gt, lc_eq, Int.toNat_natCast, Int.reduceToNat, Nat.reduceAdd, Nat.reduceEqDiff, Int.reduceLT, Int.reduceEq, Int.reduceNeg, Int.reduceAdd, Int.reduceMul, Nat.reduceMul, ms_n, ms_i, ms_l, ms_p, PM, c5]
      refine cal_of rfl (m_look hF' hT' p0 (fun μ2 f2 pA => ?_))
      have k2 : cyK cmU μ0 μ2 := k0.trans (cyK.of (f2.mono rfl))
      have d45 : μ2 146 45 = 80 := (f2 146 45 rfl).trans c45
      have d5 : μ2 146 5 = 0 := (f2 146 5 rfl).trans c5
      simp (decide := true) only [RR, ms_app, toList_some, toList_none, if_true, if_false, true_and, and_true, cond_true, sm0, sm1, sm1l, sm2, lc_lt, lc_gt, lc_eq, Int.toNat_natCast, Int.reduceToNat, Nat.reduceAdd, Nat.reduceEqDiff, Int.reduceLT, Int.reduceEq, Int.reduceNeg, Int.reduceAdd, Int.reduceMul, Nat.reduceMul, ms_n, ms_i, ms_l, ms_p, PM]
      rw [if_neg hc]
      refine cal_of rfl (Mt.go (lv := [some (.inr (.inr 146)), none]) rfl rfl rfl ?_)
      refine At.blk rfl rfl rfl fun sx => ?_
      simp (decide := true) only [RR, ms_app, toList_some, toList_none, if_true, if_false, true_and, and_true, cond_true, sm0, sm1, sm1l, sm2, lc_lt, lc_gt, lc_eq, Int.toNat_natCast, Int.reduceToNat, Nat.reduceAdd, Nat.reduceEqDiff, Int.reduceLT, Int.reduceEq, Int.reduceNeg, Int.reduceAdd, Int.reduceMul, Nat.reduceMul, ms_n, ms_i, ms_l, ms_p, PM, pA.1, d45]
      refine cal_of rfl (m_fail d5 ?_)
      simp (decide := true) only [RR, ms_app, toList_some, toList_none, if_true, if_false, true_and, and_true, cond_true, sm0, sm1, sm1l, sm2, lc_lt, lc_gt, lc_eq, Int.toNat_natCast, Int.reduceToNat, Nat.reduceAdd, Nat.reduceEqDiff, Int.reduceLT, Int.reduceEq, Int.reduceNeg, Int.reduceAdd, Int.reduceMul, Nat.reduceMul, ms_n, ms_i, ms_l, ms_p, PM]
      exact bad _ (k2.trans (cyK.of ((Fr.same.set rfl).set rfl))) rfl rfl
    · exact one m s σ μ' K hm2 sN k0 p0 c5 c6 c45 hR (Or.inr ⟨k, x, hO, bad⟩)
end
