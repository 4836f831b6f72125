/-! letter -/
def enc27r : List Int → Int
  | [] => 0
  | l :: r => l + 27 * enc27r r
theorem enc27_app : ∀ (ls : List Int) (l v : Int), enc27 (ls ++ [l]) v = 27 * enc27 ls v + l
  | [], l, v => rfl
  | a :: ls, l, v => by
    show enc27 (ls ++ [l]) (27 * v + a) = 27 * enc27 ls (27 * v + a) + l
    exact enc27_app ls l _
theorem enc27_rev : ∀ rs : List Int, enc27 rs.reverse 0 = enc27r rs
  | [] => rfl
  | l :: rs => by
    rw [List.reverse_cons, enc27_app, enc27_rev rs]
    simp only [enc27r]
    omega
theorem enc27r_nn : ∀ rs : List Int, (∀ l ∈ rs, 1 ≤ l ∧ l ≤ 26) → 0 ≤ enc27r rs ∧ enc27r rs < 27 ^ rs.length
  | [], _ => by simp [enc27r]
  | l :: rs, h => by
    have ih := enc27r_nn rs (fun x hx => h x (List.mem_cons_of_mem _ hx))
    have hl := h l (List.mem_cons_self ..)
    simp only [enc27r, List.length_cons, Int.pow_succ]
    omega
theorem enc27r_step {l : Int} {rs : List Int} (h : ∀ x ∈ l :: rs, 1 ≤ x ∧ x ≤ 26) : 0 < enc27r (l :: rs) ∧ (enc27r (l :: rs)).tdiv 27 = enc27r rs ∧ (enc27r (l :: rs)).tmod 27 = l := by
  have ih := enc27r_nn rs (fun x hx => h x (List.mem_cons_of_mem _ hx))
  have hl := h l (List.mem_cons_self ..)
  simp only [enc27r]
  rw [Int.tdiv_eq_ediv_of_nonneg (by omega), Int.tmod_eq_emod_of_nonneg (by omega)]
  omega
theorem enc5_nn : ∀ ls : List Int, (∀ l ∈ ls, 1 ≤ l ∧ l ≤ 26) → 0 ≤ enc5 ls ∧ enc5 ls < 32 ^ ls.length
  | [], _ => by simp [enc5]
  | l :: ls, h => by
    have ih := enc5_nn ls (fun x hx => h x (List.mem_cons_of_mem _ hx))
    have hl := h l (List.mem_cons_self ..)
    simp only [enc5, List.length_cons, Int.pow_succ]
    omega
theorem enc5_get : ∀ (ls : List Int) (k : Nat), (∀ l ∈ ls, 1 ≤ l ∧ l ≤ 26) → enc5 ls / (2 : Int) ^ (5 * k) % 32 = ls.getD k 0
  | [], k, _ => by simp [enc5]
  | l :: ls, 0, h => by
    have hl := h l (List.mem_cons_self ..)
    simp only [enc5, Nat.mul_zero, Int.pow_zero, List.getD_cons_zero]
    omega
  | l :: ls, k + 1, h => by
    have hl := h l (List.mem_cons_self ..)
    have ih := enc5_get ls k (fun x hx => h x (List.mem_cons_of_mem _ hx))
    rw [List.getD_cons_succ, ← ih, show 5 * (k + 1) = 5 + 5 * k by omega, Int.pow_add, ← Int.ediv_ediv_of_nonneg (by decide)]
    have : enc5 (l :: ls) / 2 ^ 5 = enc5 ls := by
      simp only [enc5]
      omega
    rw [this]
theorem w64_small {x : Int} (h1 : -9223372036854775808 ≤ x) (h2 : x < 9223372036854775808) : w64 x = x := by
  unfold w64
  exact Int.bmod_eq_of_le (by omega) (by omega)
theorem x_letter {d : Nat} {σ : mM} {K : Option mV → mM → Prop} {a b : Int} (hF : Fix σ) (hc : σ 3 4 ≤ 7)
    (h9 : ¬(0 ≤ a ∧ a < σ 3 4 ∧ 0 ≤ b ∧ b < 6) → K (some (.inl (-1))) σ)
    (h0 : 0 ≤ a ∧ a < σ 3 4 ∧ 0 ≤ b ∧ b < 6 → K (some (.inl (i_and (i_shr (σ 4 a.toNat) ((5 * b.toNat : Nat) : Int)) 31))) σ) : Mt (d + 2) 111 [.inr (.inr 0), .inl a, .inl b] σ K := by
  refine Mt.go (lv := [some (.inr (.inr 0)), some (.inl a), some (.inl b)]) rfl rfl rfl ?_
  refine At.blk rfl rfl rfl fun sx => ?_
  simp (decide := true) only [RR, ms_app, toList_some, toList_none, if_true, if_false, true_and, and_true, cond_true, sm0, sm1, sm1l, sm2, lc_lt, lc_gt, lc_eq, Int.toNat_natCast, Int.reduceToNat, Nat.reduceAdd, Nat.reduceEqDiff, Int.reduceLT, Int.reduceEq, Int.reduceNeg, Int.reduceAdd, Int.reduceMul, Nat.reduceMul, ms_n, ms_i, ms_l, ms_p, PX, fxX hF]
  refine cal_of rfl (x_holds3 (fun hh => ?_) (fun hh => ?_))
  · simp (decide := true) only [RR, ms_app, toList_some, toList_none, if_true, if_false, true_and, and_true, cond_true, sm0, sm1, sm1l, sm2, lc_lt, lc_gt, lc_eq, Int.toNat_natCast, Int.reduceToNat, Nat.reduceAdd, Nat.reduceEqDiff, Int.reduceLT, Int.reduceEq, Int.reduceNeg, Int.reduceAdd, Int.reduceMul, Nat.reduceMul, ms_n, ms_i, ms_l, ms_p, PX]
    have two : 0 ≤ b ∧ b < 6 → At (d + 1) 111 2 [some (.inr (.inr 0)), some (.inl a), some (.inl b)] [] σ K := by
      intro hb
      refine At.blk rfl rfl rfl fun sx => ?_
      simp (decide := true) only [RR, ms_app, toList_some, toList_none, if_true, if_false, true_and, and_true, cond_true, sm0, sm1, sm1l, sm2, lc_lt, lc_gt, lc_eq, Int.toNat_natCast, Int.reduceToNat, Nat.reduceAdd, Nat.reduceEqDiff, Int.reduceLT, Int.reduceEq, Int.reduceNeg, Int.reduceAdd, Int.reduceMul, Nat.reduceMul, ms_n, ms_i, ms_l, ms_p, PX, fxX hF]
      rw [w32_small (by omega) (by omega), show (5 * b : Int) = ((5 * b.toNat : Nat) : Int) by omega]
      exact ⟨by omega, h0 (by omega)⟩
    have one : ¬(0 ≤ b ∧ b < 6) → At (d + 1) 111 1 [some (.inr (.inr 0)), some (.inl a), some (.inl b)] [] σ K := by
      intro hb
      refine At.blk rfl rfl rfl fun sx => ?_
      simp (decide := true) only [RR, ms_app, toList_some, toList_none, if_true, if_false, true_and, and_true, cond_true, sm0, sm1, sm1l, sm2, lc_lt, lc_gt, lc_eq, Int.toNat_natCast, Int.reduceToNat, Nat.reduceAdd, Nat.reduceEqDiff, Int.reduceLT, Int.reduceEq, Int.reduceNeg, Int.reduceAdd, Int.reduceMul, Nat.reduceMul, ms_n, ms_i, ms_l, ms_p, PX, fxX hF]
      exact h9 (by omega)
    split
    · exact one (by omega)
    · split
      · exact two (by omega)
      · exact one (by omega)
  · simp (decide := true) only [RR, ms_app, toList_some, toList_none, if_true, if_false, true_and, and_true, cond_true, sm0, sm1, sm1l, sm2, lc_lt, lc_gt, lc_eq, Int.toNat_natCast, Int.reduceToNat, Nat.reduceAdd, Nat.reduceEqDiff, Int.reduceLT, Int.reduceEq, Int.reduceNeg, Int.reduceAdd, Int.reduceMul, Nat.reduceMul, ms_n, ms_i, ms_l, ms_p, PX]
    refine At.blk rfl rfl rfl fun sx => ?_
    simp (decide := true) only [RR, ms_app, toList_some, toList_none, if_true, if_false, true_and, and_true, cond_true, sm0, sm1, sm1l, sm2, lc_lt, lc_gt, lc_eq, Int.toNat_natCast, Int.reduceToNat, Nat.reduceAdd, Nat.reduceEqDiff, Int.reduceLT, Int.reduceEq, Int.reduceNeg, Int.reduceAdd, Int.reduceMul, Nat.reduceMul, ms_n, ms_i, ms_l, ms_p, PX, fxX hF]
    exact h9 (by omega)
theorem m_letter {d : Nat} {σ : mM} {K : Option mV → mM → Prop} {a b : Int} (hF : Fix σ) (hc : 0 ≤ σ 173 2 ∧ σ 173 2 ≤ 7)
    (h9 : ¬(0 ≤ a ∧ a < σ 173 2 ∧ 0 ≤ b ∧ b < 6) → K (some (.inl (-1))) σ)
    (h0 : 0 ≤ a ∧ a < σ 173 2 ∧ 0 ≤ b ∧ b < 6 → ∃ ls : List Int, ls.length ≤ 6 ∧ (∀ l ∈ ls, 1 ≤ l ∧ l ≤ 26) ∧ σ 174 (7 + a.toNat) = enc27 ls 0 ∧ K (some (.inl (ls.getD b.toNat 0))) σ) : Mt (d + 3) 204 [.inr (.inr 146), .inl a, .inl b] σ K := by
  refine Mt.go (lv := [some (.inr (.inr 146)), some (.inl a), some (.inl b), none, none, none, none, none]) rfl rfl rfl ?_
  refine At.blk rfl rfl rfl fun sx => ?_
  simp (decide := true) only [RR, ms_app, toList_some, toList_none, if_true, if_false, true_and, and_true, cond_true, sm0, sm1, sm1l, sm2, lc_lt, lc_gt, lc_eq, Int.toNat_natCast, Int.reduceToNat, Nat.reduceAdd, Nat.reduceEqDiff, Int.reduceLT, Int.reduceEq, Int.reduceNeg, Int.reduceAdd, Int.reduceMul, Nat.reduceMul, ms_n, ms_i, ms_l, ms_p, PM, fxM hF]
  have one : ¬(0 ≤ a ∧ a < σ 173 2 ∧ 0 ≤ b ∧ b < 6) → At (d + 2) 204 1 [some (.inr (.inr 146)), some (.inl a), some (.inl b), none, none, none, none, none] [] σ K := by
    intro hb
    refine At.blk rfl rfl rfl fun sx => ?_
    simp (decide := true) only [RR, ms_app, toList_some, toList_none, if_true, if_false, true_and, and_true, cond_true, sm0, sm1, sm1l, sm2, lc_lt, lc_gt, lc_eq, Int.toNat_natCast, Int.reduceToNat, Nat.reduceAdd, Nat.reduceEqDiff, Int.reduceLT, Int.reduceEq, Int.reduceNeg, Int.reduceAdd, Int.reduceMul, Nat.reduceMul, ms_n, ms_i, ms_l, ms_p, PM]
    exact h9 hb
  refine cal_of rfl (m_isPart hF hc (fun hh => ?_) (fun hh => ?_))
  · simp (decide := true) only [RR, ms_app, toList_some, toList_none, if_true, if_false, true_and, and_true, cond_true, sm0, sm1, sm1l, sm2, lc_lt, lc_gt, lc_eq, Int.toNat_natCast, Int.reduceToNat, Nat.reduceAdd, Nat.reduceEqDiff, Int.reduceLT, Int.reduceEq, Int.reduceNeg, Int.reduceAdd, Int.reduceMul, Nat.reduceMul, ms_n, ms_i, ms_l, ms_p, PM]
    refine cal_of rfl (m_isIn ?_)
    by_cases hb : 0 ≤ b ∧ b ≤ 5
    · rw [if_pos hb]
      simp (decide := true) only [RR, ms_app, toList_some, toList_none, if_true, if_false, true_and, and_true, cond_true, sm0, sm1, sm1l, sm2, lc_lt, lc_gt, lc_eq, Int.toNat_natCast, Int.reduceToNat, Nat.reduceAdd, Nat.reduceEqDiff, Int.reduceLT, Int.reduceEq, Int.reduceNeg, Int.reduceAdd, Int.reduceMul, Nat.reduceMul, ms_n, ms_i, ms_l, ms_p, PM]
      obtain ⟨ls, l1, l2, l3, l4⟩ := h0 (by omega)
      have l2r : ∀ l ∈ ls.reverse, 1 ≤ l ∧ l ≤ 26 := fun l hl => l2 l (List.mem_reverse.mp hl)
      have l3r : σ 174 (7 + a.toNat) = enc27r ls.reverse := by rw [l3, ← enc27_rev, List.reverse_reverse]
      have lim : ∀ rs : List Int, rs.length ≤ 6 → (∀ l ∈ rs, 1 ≤ l ∧ l ≤ 26) → 0 ≤ enc27r rs ∧ enc27r rs < 387420489 := by
        intro rs hl hr
        have := enc27r_nn rs hr
        have h6 : ∀ n : Nat, n ≤ 6 → (27 : Int) ^ n ≤ 387420489 := by decide
        have := h6 rs.length hl
        omega
      refine At.blk rfl rfl rfl fun sx => ?_
      simp (decide := true) only [RR, ms_app, toList_some, toList_none, if_true, if_false, true_and, and_true, cond_true, sm0, sm1, sm1l, sm2, lc_lt, lc_gt, lc_eq, Int.toNat_natCast, Int.reduceToNat, Nat.reduceAdd, Nat.reduceEqDiff, Int.reduceLT, Int.reduceEq, Int.reduceNeg, Int.reduceAdd, Int.reduceMul, Nat.reduceMul, ms_n, ms_i, ms_l, ms_p, PM, fxM hF]
      rw [w32_small (by omega) (by omega), show (7 + a).toNat = 7 + a.toNat by omega]
      refine ⟨by omega, ?_⟩
      rw [l3r]
      have loop2 : ∀ (j : Nat) (rs : List Int) (o : Option mV), rs.length = b.toNat + 1 + j → rs.length ≤ 6 → (∀ l ∈ rs, 1 ≤ l ∧ l ≤ 26) → rs.getD j 0 = ls.getD b.toNat 0 → ∀ n : Int, At (d + 2) 204 6 [some (.inr (.inr 146)), some (.inl a), some (.inl b), some (.inr (.inl (enc27r rs))), none, some (.inl n), some (.inl (b + j)), o] [] σ K := by
        intro j
        induction j with
        | zero =>
          intro rs o hl hl6 hr ht n
          refine At.blk rfl rfl rfl fun sx => ?_
          simp (decide := true) only [RR, ms_app, toList_some, toList_none, if_true, if_false, true_and, and_true, cond_true, sm0, sm1, sm1l, sm2, lc_lt, lc_gt, lc_eq, Int.toNat_natCast, Int.reduceToNat, Nat.reduceAdd, Nat.reduceEqDiff, Int.reduceLT, Int.reduceEq, Int.reduceNeg, Int.reduceAdd, Int.reduceMul, Nat.reduceMul, ms_n, ms_i, ms_l, ms_p, PM, fxM hF]
          rw [if_neg (by omega)]
          match rs, hl, hr, ht with
          | [], hl, _, _ => exact absurd hl (by simp)
          | l :: rs, hl, hr, ht =>
            have st := enc27r_step hr
            have ll := hr l (List.mem_cons_self ..)
            refine At.blk rfl rfl rfl fun sx => ?_
            simp (decide := true) only [RR, ms_app, toList_some, toList_none, if_true, if_false, true_and, and_true, cond_true, sm0, sm1, sm1l, sm2, lc_lt, lc_gt, lc_eq, Int.toNat_natCast, Int.reduceToNat, Nat.reduceAdd, Nat.reduceEqDiff, Int.reduceLT, Int.reduceEq, Int.reduceNeg, Int.reduceAdd, Int.reduceMul, Nat.reduceMul, ms_n, ms_i, ms_l, ms_p, PM, fxM hF]
            rw [st.2.2, w32_small (by omega) (by omega)]
            rw [List.getD_cons_zero] at ht
            rw [ht]
            exact l4
        | succ j ih =>
          intro rs o hl hl6 hr ht n
          refine At.blk rfl rfl rfl fun sx => ?_
          simp (decide := true) only [RR, ms_app, toList_some, toList_none, if_true, if_false, true_and, and_true, cond_true, sm0, sm1, sm1l, sm2, lc_lt, lc_gt, lc_eq, Int.toNat_natCast, Int.reduceToNat, Nat.reduceAdd, Nat.reduceEqDiff, Int.reduceLT, Int.reduceEq, Int.reduceNeg, Int.reduceAdd, Int.reduceMul, Nat.reduceMul, ms_n, ms_i, ms_l, ms_p, PM, fxM hF]
          rw [if_pos (by omega)]
          match rs, hl, hr, ht, hl6 with
          | [], hl, _, _, _ => exact absurd hl (by simp)
          | l :: rs, hl, hr, ht, hl6 =>
            have st := enc27r_step hr
            have hr2 : ∀ x ∈ rs, 1 ≤ x ∧ x ≤ 26 := fun x hx => hr x (List.mem_cons_of_mem _ hx)
            simp only [List.length_cons] at hl hl6
            have lm := lim rs (by omega) hr2
            rw [st.2.1, w64_small (by omega) (by omega), w32_small (by omega) (by omega), show b + ((j + 1 : Nat) : Int) + -1 = b + (j : Int) by omega]
            exact ih rs _ (by omega) (by omega) hr2 (by rw [List.getD_cons_succ] at ht; exact ht) n
      have loop1 : ∀ (rs : List Int) (i : Nat), rs.length + i = ls.length → (∀ l ∈ rs, 1 ≤ l ∧ l ≤ 26) → At (d + 2) 204 3 [some (.inr (.inr 146)), some (.inl a), some (.inl b), some (.inr (.inl (enc27r ls.reverse))), none, some (.inl (i : Int)), some (.inr (.inl (enc27r rs))), none] [] σ K := by
        intro rs
        induction rs with
        | nil =>
          intro i hi hr
          refine At.blk rfl rfl rfl fun sx => ?_
          simp (decide := true) only [RR, ms_app, toList_some, toList_none, if_true, if_false, true_and, and_true, cond_true, sm0, sm1, sm1l, sm2, lc_lt, lc_gt, lc_eq, Int.toNat_natCast, Int.reduceToNat, Nat.reduceAdd, Nat.reduceEqDiff, Int.reduceLT, Int.reduceEq, Int.reduceNeg, Int.reduceAdd, Int.reduceMul, Nat.reduceMul, ms_n, ms_i, ms_l, ms_p, PM, fxM hF, show enc27r [] = 0 from rfl]
          refine At.blk rfl rfl rfl fun sx => ?_
          simp (decide := true) only [RR, ms_app, toList_some, toList_none, if_true, if_false, true_and, and_true, cond_true, sm0, sm1, sm1l, sm2, lc_lt, lc_gt, lc_eq, Int.toNat_natCast, Int.reduceToNat, Nat.reduceAdd, Nat.reduceEqDiff, Int.reduceLT, Int.reduceEq, Int.reduceNeg, Int.reduceAdd, Int.reduceMul, Nat.reduceMul, ms_n, ms_i, ms_l, ms_p, PM, fxM hF]
          simp only [List.length_nil] at hi
          split
          · refine At.blk rfl rfl rfl fun sx => ?_
            simp (decide := true) only [RR, ms_app, toList_some, toList_none, if_true, if_false, true_and, and_true, cond_true, sm0, sm1, sm1l, sm2, lc_lt, lc_gt, lc_eq, Int.toNat_natCast, Int.reduceToNat, Nat.reduceAdd, Nat.reduceEqDiff, Int.reduceLT, Int.reduceEq, Int.reduceNeg, Int.reduceAdd, Int.reduceMul, Nat.reduceMul, ms_n, ms_i, ms_l, ms_p, PM, fxM hF]
            rw [w32_small (by omega) (by omega), show (i : Int) - 1 = b + ((i - 1 - b.toNat : Nat) : Int) by omega]
            refine loop2 _ _ _ (by rw [List.length_reverse]; omega) (by rw [List.length_reverse]; omega) l2r ?_ _
            rw [List.getD_eq_getElem?_getD, List.getElem?_reverse (by omega), List.getD_eq_getElem?_getD, show ls.length - 1 - (i - 1 - b.toNat) = b.toNat by omega]
          · rw [List.getD_eq_getElem?_getD, List.getElem?_eq_none (by omega)] at l4
            exact l4
        | cons l rs ih =>
          intro i hi hr
          have st := enc27r_step hr
          simp only [List.length_cons] at hi
          have hr2 : ∀ x ∈ rs, 1 ≤ x ∧ x ≤ 26 := fun x hx => hr x (List.mem_cons_of_mem _ hx)
          have lm := lim rs (by omega) hr2
          refine At.blk rfl rfl rfl fun sx => ?_
          simp (decide := true) only [RR, ms_app, toList_some, toList_none, if_true, if_false, true_and, and_true, cond_true, sm0, sm1, sm1l, sm2, lc_lt, lc_gt, lc_eq, Int.toNat_natCast, Int.reduceToNat, Nat.reduceAdd, Nat.reduceEqDiff, Int.reduceLT, Int.reduceEq, Int.reduceNeg, Int.reduceAdd, Int.reduceMul, Nat.reduceMul, ms_n, ms_i, ms_l, ms_p, PM, fxM hF]
          rw [if_pos st.1, st.2.1, w64_small (by omega) (by omega), w32_small (by omega) (by omega)]
          exact ih (i + 1) (by omega) hr2
      exact loop1 ls.reverse 0 (by rw [List.length_reverse]; omega) l2r
    · rw [if_neg hb]
      simp (decide := true) only [RR, ms_app, toList_some, toList_none, if_true, if_false, true_and, and_true, cond_true, sm0, sm1, sm1l, sm2, lc_lt, lc_gt, lc_eq, Int.toNat_natCast, Int.reduceToNat, Nat.reduceAdd, Nat.reduceEqDiff, Int.reduceLT, Int.reduceEq, Int.reduceNeg, Int.reduceAdd, Int.reduceMul, Nat.reduceMul, ms_n, ms_i, ms_l, ms_p, PM]
      exact one (by omega)
  · simp (decide := true) only [RR, ms_app, toList_some, toList_none, if_true, if_false, true_and, and_true, cond_true, sm0, sm1, sm1l, sm2, lc_lt, lc_gt, lc_eq, Int.toNat_natCast, Int.reduceToNat, Nat.reduceAdd, Nat.reduceEqDiff, Int.reduceLT, Int.reduceEq, Int.reduceNeg, Int.reduceAdd, Int.reduceMul, Nat.reduceMul, ms_n, ms_i, ms_l, ms_p, PM]
    exact one (by omega)
theorem p_letter {σ : mM} (h : Inv σ) (a b : Int) (_ : inR a) (_ : inR b) : PairI Inv 111 204 [.inl a, .inl b] σ := by
  have hF := h.1
  have c := h.2.2.2.2.2.2.2.1
  obtain ⟨m1, m2, m3⟩ := c.1
  refine x_letter hF m3 (fun hn => ?_) (fun hn => ?_)
  · exact ⟨_, rfl, m_letter hF (by omega) (fun _ => ⟨rfl, h⟩) (fun hy => absurd hy (by omega))⟩
  · refine ⟨_, rfl, m_letter hF (by omega) (fun hy => absurd hy (by omega)) (fun _ => ?_)⟩
    obtain ⟨ls, l0, l1, l2, l3, l4⟩ := (c.2.2.2.2.1 a.toNat (by omega)).1
    refine ⟨ls, l1, l2, l4, ?_, h⟩
    have e := enc5_nn ls l2
    have h6 : ∀ n : Nat, n ≤ 6 → (32 : Int) ^ n ≤ 1073741824 := by decide
    have e6 := h6 ls.length l1
    rw [l3, i_shr_div (by omega) (by omega) (by omega), i_and31, enc5_get ls _ l2]
