/-! the class takes tokens -/
def IsWd (N : Nat) (t : Nat → Int) (s : Nat) (g : Bool) (e w : Nat) : Prop := g = false ∧ s < N ∧ ltr (t s) ∧ RunP ltr N t s e ∧ isW t s e w
def IsNm (N : Nat) (t : Nat → Int) (s : Nat) (g : Bool) (e : Nat) : Prop := g = false ∧ s < N ∧ dgt (t s) ∧ RunP dgt N t s e
def IsSg (N : Nat) (t : Nat → Int) (s : Nat) (c : Int) : Prop := s < N ∧ t s = c
def sgn (c : Int) : Prop := c = 40 ∨ c = 41 ∨ c = 42 ∨ c = 43 ∨ c = 44 ∨ c = 45 ∨ c = 47 ∨ c = 59 ∨ c = 60 ∨ c = 61 ∨ c = 62 ∨ c = 91 ∨ c = 93
theorem sgn.no {c : Int} (h : sgn c) : ¬ltr c ∧ ¬dgt c ∧ ¬blk c := by
  unfold sgn at h; unfold ltr dgt blk; omega
section
variable {d : Nat} {σ σ0 : mM} {K : Option mV → mM → Prop} {N : Nat} {t : Nat → Int} {s : Nat} {g : Bool}
theorem TX.le (h : TX σ N t s g) : s ≤ N := by
  obtain ⟨e, kd, -, -, -, h | h, -⟩ := h
  · omega
  · omega
theorem TX.st (h : TX σ N t s g) : σ 20 2 = (s : Int) := by
  obtain ⟨e, kd, -, h, -⟩ := h
  exact h
theorem TX.nb (h : TX σ N t s g) : s < N → ¬blk (t s) := by
  obtain ⟨e, kd, -, -, -, h | h, -⟩ := h
  · intro; omega
  · intro; exact h.2.1
theorem TX.view (h : TX σ N t s g) : (s = N ∧ σ 20 1 = 0) ∨ (∃ e, g = false ∧ s < N ∧ ltr (t s) ∧ RunP ltr N t s e ∧ σ 20 1 = 1 ∧ σ 20 3 = (e : Int) ∧ WdR t s e (σ 20 4)) ∨ (∃ e, g = false ∧ s < N ∧ dgt (t s) ∧ RunP dgt N t s e ∧ σ 20 1 = 2 ∧ σ 20 3 = (e : Int) ∧ σ 20 5 = numV t s (min 4 (e - s))) ∨ (s < N ∧ ¬blk (t s) ∧ ¬ltr (t s) ∧ ¬dgt (t s) ∧ σ 20 1 = 3 ∧ σ 20 3 = ((s + 1 : Nat) : Int)) ∨ (g = true ∧ s < N ∧ (ltr (t s) ∨ dgt (t s)) ∧ σ 20 1 = 5) := by
  obtain ⟨e, kd, q1, q2, q3, h, hW, hN⟩ := h
  rcases h with ⟨a1, a2, a3⟩ | ⟨a1, a2, ⟨b1, b2, b3⟩ | ⟨b1, b2, b3⟩ | ⟨b1, b2, b3, b4⟩⟩
  · exact Or.inl ⟨a1, by rw [q1, a2]⟩
  · cases g with
    | true =>
      rw [if_pos rfl] at b3
      exact Or.inr (Or.inr (Or.inr (Or.inr ⟨rfl, a1, Or.inl b1, by rw [q1, b3]⟩)))
    | false =>
      rw [if_neg (by decide)] at b3
      exact Or.inr (Or.inl ⟨e, rfl, a1, b1, b2, by rw [q1, b3], q3, hW b3⟩)
  · cases g with
    | true =>
      rw [if_pos rfl] at b3
      exact Or.inr (Or.inr (Or.inr (Or.inr ⟨rfl, a1, Or.inr b1, by rw [q1, b3]⟩)))
    | false =>
      rw [if_neg (by decide)] at b3
      exact Or.inr (Or.inr (Or.inl ⟨e, rfl, a1, b1, b2, by rw [q1, b3], q3, hN b3⟩))
  · exact Or.inr (Or.inr (Or.inr (Or.inl ⟨a1, a2, b1, b2, by rw [q1, b4], by rw [q3, b3]⟩)))
theorem ltr_dgt {c : Int} (h : ltr c) : ¬dgt c := by unfold ltr at h; unfold dgt; omega
theorem x_isWord {w : Nat} (hw : w < 27) (hX : TX σ N t s g) (h1 : ∀ e, IsWd N t s g e w → σ 20 1 = 1 → σ 20 3 = (e : Int) → K (some (.inl 1)) σ) (h0 : (∀ e, ¬IsWd N t s g e w) → K (some (.inl 0)) σ) : Mt (d + 1) 86 [.inr (.inr 20), .inl (w : Int)] σ K := by
  refine Mt.go (lv := [some (.inr (.inr 20)), some (.inl (w : Int))]) rfl rfl rfl ?_
  have no : (∀ e, ¬IsWd N t s g e w) → At d 86 1 [some (.inr (.inr 20)), some (.inl (w : Int))] [] σ K := by
    intro h
    refine At.blk rfl rfl rfl fun sx => ?_
    simp (decide := true) only [RR, ms_app, toList_some, toList_none, if_true, if_false, true_and, and_true, cond_true, sm0, sm1, sm1l, sm2, lc_lt, lc_gt, lc_eq, Int.toNat_natCast, Int.reduceToNat, Nat.reduceAdd, Nat.reduceEqDiff, Int.reduceLT, Int.reduceEq, Int.reduceNeg, Int.reduceAdd, Int.reduceMul, Nat.reduceMul, ms_n, ms_i, ms_l, ms_p, PX]
    refine At.blk rfl rfl rfl fun sx => ?_
    simp (decide := true) only [RR, ms_app, toList_some, toList_none, if_true, if_false, true_and, and_true, cond_true, sm0, sm1, sm1l, sm2, lc_lt, lc_gt, lc_eq, Int.toNat_natCast, Int.reduceToNat, Nat.reduceAdd, Nat.reduceEqDiff, Int.reduceLT, Int.reduceEq, Int.reduceNeg, Int.reduceAdd, Int.reduceMul, Nat.reduceMul, ms_n, ms_i, ms_l, ms_p, PX]
    exact h0 h
  rcases hX.view with ⟨a, q⟩ | ⟨e, a, b, c, r, q, q3, qw⟩ | ⟨e, a, b, c, r, q, q3, qn⟩ | ⟨a, b, c, c2, q, q3⟩ | ⟨a, b, c, q⟩
  · refine At.blk rfl rfl rfl fun sx => ?_
    simp (decide := true) only [RR, ms_app, toList_some, toList_none, if_true, if_false, true_and, and_true, cond_true, sm0, sm1, sm1l, sm2, lc_lt, lc_gt, lc_eq, Int.toNat_natCast, Int.reduceToNat, Nat.reduceAdd, Nat.reduceEqDiff, Int.reduceLT, Int.reduceEq, Int.reduceNeg, Int.reduceAdd, Int.reduceMul, Nat.reduceMul, ms_n, ms_i, ms_l, ms_p, PX, q]
    exact no (fun e h => by have := h.2.1; omega)
  · refine At.blk rfl rfl rfl fun sx => ?_
    simp (decide := true) only [RR, ms_app, toList_some, toList_none, if_true, if_false, true_and, and_true, cond_true, sm0, sm1, sm1l, sm2, lc_lt, lc_gt, lc_eq, Int.toNat_natCast, Int.reduceToNat, Nat.reduceAdd, Nat.reduceEqDiff, Int.reduceLT, Int.reduceEq, Int.reduceNeg, Int.reduceAdd, Int.reduceMul, Nat.reduceMul, ms_n, ms_i, ms_l, ms_p, PX, q]
    have hi := qw.iff hw
    by_cases h : σ 20 4 = (w : Int)
    · rw [if_pos h]
      refine At.blk rfl rfl rfl fun sx => ?_
      simp (decide := true) only [RR, ms_app, toList_some, toList_none, if_true, if_false, true_and, and_true, cond_true, sm0, sm1, sm1l, sm2, lc_lt, lc_gt, lc_eq, Int.toNat_natCast, Int.reduceToNat, Nat.reduceAdd, Nat.reduceEqDiff, Int.reduceLT, Int.reduceEq, Int.reduceNeg, Int.reduceAdd, Int.reduceMul, Nat.reduceMul, ms_n, ms_i, ms_l, ms_p, PX]
      exact h1 e ⟨a, b, c, r, hi.mp h⟩ q q3
    · rw [if_neg h]
      exact no (fun e2 h2 => h (hi.mpr (by rw [r.uniq h2.2.2.2.1]; exact h2.2.2.2.2)))
  · refine At.blk rfl rfl rfl fun sx => ?_
    simp (decide := true) only [RR, ms_app, toList_some, toList_none, if_true, if_false, true_and, and_true, cond_true, sm0, sm1, sm1l, sm2, lc_lt, lc_gt, lc_eq, Int.toNat_natCast, Int.reduceToNat, Nat.reduceAdd, Nat.reduceEqDiff, Int.reduceLT, Int.reduceEq, Int.reduceNeg, Int.reduceAdd, Int.reduceMul, Nat.reduceMul, ms_n, ms_i, ms_l, ms_p, PX, q]
    exact no (fun e h => ltr_dgt h.2.2.1 c)
  · refine At.blk rfl rfl rfl fun sx => ?_
    simp (decide := true) only [RR, ms_app, toList_some, toList_none, if_true, if_false, true_and, and_true, cond_true, sm0, sm1, sm1l, sm2, lc_lt, lc_gt, lc_eq, Int.toNat_natCast, Int.reduceToNat, Nat.reduceAdd, Nat.reduceEqDiff, Int.reduceLT, Int.reduceEq, Int.reduceNeg, Int.reduceAdd, Int.reduceMul, Nat.reduceMul, ms_n, ms_i, ms_l, ms_p, PX, q]
    exact no (fun e h => c h.2.2.1)
  · refine At.blk rfl rfl rfl fun sx => ?_
    simp (decide := true) only [RR, ms_app, toList_some, toList_none, if_true, if_false, true_and, and_true, cond_true, sm0, sm1, sm1l, sm2, lc_lt, lc_gt, lc_eq, Int.toNat_natCast, Int.reduceToNat, Nat.reduceAdd, Nat.reduceEqDiff, Int.reduceLT, Int.reduceEq, Int.reduceNeg, Int.reduceAdd, Int.reduceMul, Nat.reduceMul, ms_n, ms_i, ms_l, ms_p, PX, q]
    exact no (fun e h => by rw [a] at h; exact absurd h.1 (by decide))
theorem x_isSign {c : Int} (hF : Fix σ) (hT : TxX σ N t) (hc : sgn c) (hX : TX σ N t s g) (h1 : IsSg N t s c → σ 20 1 = 3 → σ 20 3 = ((s + 1 : Nat) : Int) → K (some (.inl 1)) σ) (h0 : ¬IsSg N t s c → K (some (.inl 0)) σ) : Mt (d + 1) 87 [.inr (.inr 20), .inl c] σ K := by
  refine Mt.go (lv := [some (.inr (.inr 20)), some (.inl c)]) rfl rfl rfl ?_
  obtain ⟨c1, c2, c3⟩ := hc.no
  have n16 := hT.2.1
  have no : ¬IsSg N t s c → At d 87 1 [some (.inr (.inr 20)), some (.inl c)] [] σ K := by
    intro h
    refine At.blk rfl rfl rfl fun sx => ?_
    simp (decide := true) only [RR, ms_app, toList_some, toList_none, if_true, if_false, true_and, and_true, cond_true, sm0, sm1, sm1l, sm2, lc_lt, lc_gt, lc_eq, Int.toNat_natCast, Int.reduceToNat, Nat.reduceAdd, Nat.reduceEqDiff, Int.reduceLT, Int.reduceEq, Int.reduceNeg, Int.reduceAdd, Int.reduceMul, Nat.reduceMul, ms_n, ms_i, ms_l, ms_p, PX]
    refine At.blk rfl rfl rfl fun sx => ?_
    simp (decide := true) only [RR, ms_app, toList_some, toList_none, if_true, if_false, true_and, and_true, cond_true, sm0, sm1, sm1l, sm2, lc_lt, lc_gt, lc_eq, Int.toNat_natCast, Int.reduceToNat, Nat.reduceAdd, Nat.reduceEqDiff, Int.reduceLT, Int.reduceEq, Int.reduceNeg, Int.reduceAdd, Int.reduceMul, Nat.reduceMul, ms_n, ms_i, ms_l, ms_p, PX]
    exact h0 h
  rcases hX.view with ⟨a, q⟩ | ⟨e, a, b, l, r, q, q3, qw⟩ | ⟨e, a, b, l, r, q, q3, qn⟩ | ⟨a, b, l, l2, q, q3⟩ | ⟨a, b, l, q⟩
  · refine At.blk rfl rfl rfl fun sx => ?_
    simp (decide := true) only [RR, ms_app, toList_some, toList_none, if_true, if_false, true_and, and_true, cond_true, sm0, sm1, sm1l, sm2, lc_lt, lc_gt, lc_eq, Int.toNat_natCast, Int.reduceToNat, Nat.reduceAdd, Nat.reduceEqDiff, Int.reduceLT, Int.reduceEq, Int.reduceNeg, Int.reduceAdd, Int.reduceMul, Nat.reduceMul, ms_n, ms_i, ms_l, ms_p, PX, q]
    exact no (fun h => by have := h.1; omega)
  · refine At.blk rfl rfl rfl fun sx => ?_
    simp (decide := true) only [RR, ms_app, toList_some, toList_none, if_true, if_false, true_and, and_true, cond_true, sm0, sm1, sm1l, sm2, lc_lt, lc_gt, lc_eq, Int.toNat_natCast, Int.reduceToNat, Nat.reduceAdd, Nat.reduceEqDiff, Int.reduceLT, Int.reduceEq, Int.reduceNeg, Int.reduceAdd, Int.reduceMul, Nat.reduceMul, ms_n, ms_i, ms_l, ms_p, PX, q]
    exact no (fun h => by rw [h.2] at l; exact c1 l)
  · refine At.blk rfl rfl rfl fun sx => ?_
    simp (decide := true) only [RR, ms_app, toList_some, toList_none, if_true, if_false, true_and, and_true, cond_true, sm0, sm1, sm1l, sm2, lc_lt, lc_gt, lc_eq, Int.toNat_natCast, Int.reduceToNat, Nat.reduceAdd, Nat.reduceEqDiff, Int.reduceLT, Int.reduceEq, Int.reduceNeg, Int.reduceAdd, Int.reduceMul, Nat.reduceMul, ms_n, ms_i, ms_l, ms_p, PX, q]
    exact no (fun h => by rw [h.2] at l; exact c2 l)
  · refine At.blk rfl rfl rfl fun sx => ?_
    simp (decide := true) only [RR, ms_app, toList_some, toList_none, if_true, if_false, true_and, and_true, cond_true, sm0, sm1, sm1l, sm2, lc_lt, lc_gt, lc_eq, Int.toNat_natCast, Int.reduceToNat, Nat.reduceAdd, Nat.reduceEqDiff, Int.reduceLT, Int.reduceEq, Int.reduceNeg, Int.reduceAdd, Int.reduceMul, Nat.reduceMul, ms_n, ms_i, ms_l, ms_p, PX, q, fxX hF, hX.st, (hT.2.2 s a).1]
    refine ⟨⟨by omega, by omega⟩, ?_⟩
    by_cases h : t s = c
    · rw [if_pos h]
      refine At.blk rfl rfl rfl fun sx => ?_
      simp (decide := true) only [RR, ms_app, toList_some, toList_none, if_true, if_false, true_and, and_true, cond_true, sm0, sm1, sm1l, sm2, lc_lt, lc_gt, lc_eq, Int.toNat_natCast, Int.reduceToNat, Nat.reduceAdd, Nat.reduceEqDiff, Int.reduceLT, Int.reduceEq, Int.reduceNeg, Int.reduceAdd, Int.reduceMul, Nat.reduceMul, ms_n, ms_i, ms_l, ms_p, PX]
      exact h1 ⟨a, h⟩ q q3
    · rw [if_neg h]
      exact no (fun h2 => h h2.2)
  · refine At.blk rfl rfl rfl fun sx => ?_
    simp (decide := true) only [RR, ms_app, toList_some, toList_none, if_true, if_false, true_and, and_true, cond_true, sm0, sm1, sm1l, sm2, lc_lt, lc_gt, lc_eq, Int.toNat_natCast, Int.reduceToNat, Nat.reduceAdd, Nat.reduceEqDiff, Int.reduceLT, Int.reduceEq, Int.reduceNeg, Int.reduceAdd, Int.reduceMul, Nat.reduceMul, ms_n, ms_i, ms_l, ms_p, PX, q]
    exact no (fun h => by
      rw [h.2] at l
      rcases l with l | l
      · exact c1 l
      · exact c2 l)
theorem x_fail {k p : Int} (hK : K (some (.inl 0)) (mj_set (mj_set σ 19 2 k) 19 3 p)) : Mt (d + 1) 39 [.inr (.inr 19), .inl k, .inl p] σ K := by
  refine Mt.go (lv := [some (.inr (.inr 19)), some (.inl k), some (.inl p)]) rfl rfl rfl ?_
  refine At.blk rfl rfl rfl fun sx => ?_
  simp (decide := true) only [RR, ms_app, toList_some, toList_none, if_true, if_false, true_and, and_true, cond_true, sm0, sm1, sm1l, sm2, lc_lt, lc_gt, lc_eq, Int.toNat_natCast, Int.reduceToNat, Nat.reduceAdd, Nat.reduceEqDiff, Int.reduceLT, Int.reduceEq, Int.reduceNeg, Int.reduceAdd, Int.reduceMul, Nat.reduceMul, ms_n, ms_i, ms_l, ms_p, PX]
  exact hK
theorem x_takeSign {c : Int} (hF : Fix σ) (hT : TxX σ N t) (hc : sgn c) (hX : TX σ N t s g) (h1 : ∀ σ' s', IsSg N t s c → Skp N t (s + 1) s' → Fr [] tkL σ σ' → TX σ' N t s' false → K (some (.inl 1)) σ') (h0 : ¬IsSg N t s c → K (some (.inl 0)) (mj_set (mj_set σ 19 2 1) 19 3 (s : Int))) : Mt (d + 3) 51 [.inr (.inr 19), .inl c] σ K := by
  refine Mt.go (lv := [some (.inr (.inr 19)), some (.inl c)]) rfl rfl rfl ?_
  refine At.blk rfl rfl rfl fun sx => ?_
  simp (decide := true) only [RR, ms_app, toList_some, toList_none, if_true, if_false, true_and, and_true, cond_true, sm0, sm1, sm1l, sm2, lc_lt, lc_gt, lc_eq, Int.toNat_natCast, Int.reduceToNat, Nat.reduceAdd, Nat.reduceEqDiff, Int.reduceLT, Int.reduceEq, Int.reduceNeg, Int.reduceAdd, Int.reduceMul, Nat.reduceMul, ms_n, ms_i, ms_l, ms_p, PX, fxX hF]
  refine cal_of rfl (x_isSign hF hT hc hX (fun h q q3 => ?_) (fun h => ?_))
  · simp (decide := true) only [RR, ms_app, toList_some, toList_none, if_true, if_false, true_and, and_true, cond_true, sm0, sm1, sm1l, sm2, lc_lt, lc_gt, lc_eq, Int.toNat_natCast, Int.reduceToNat, Nat.reduceAdd, Nat.reduceEqDiff, Int.reduceLT, Int.reduceEq, Int.reduceNeg, Int.reduceAdd, Int.reduceMul, Nat.reduceMul, ms_n, ms_i, ms_l, ms_p, PX]
    refine At.blk rfl rfl rfl fun sx => ?_
    simp (decide := true) only [RR, ms_app, toList_some, toList_none, if_true, if_false, true_and, and_true, cond_true, sm0, sm1, sm1l, sm2, lc_lt, lc_gt, lc_eq, Int.toNat_natCast, Int.reduceToNat, Nat.reduceAdd, Nat.reduceEqDiff, Int.reduceLT, Int.reduceEq, Int.reduceNeg, Int.reduceAdd, Int.reduceMul, Nat.reduceMul, ms_n, ms_i, ms_l, ms_p, PX, fxX hF]
    refine cal_of rfl (x_next hF hT q q3 (by have := h.1; omega) (fun σ1 s1 f1 k1 x1 => ?_))
    simp (decide := true) only [RR, ms_app, toList_some, toList_none, if_true, if_false, true_and, and_true, cond_true, sm0, sm1, sm1l, sm2, lc_lt, lc_gt, lc_eq, Int.toNat_natCast, Int.reduceToNat, Nat.reduceAdd, Nat.reduceEqDiff, Int.reduceLT, Int.reduceEq, Int.reduceNeg, Int.reduceAdd, Int.reduceMul, Nat.reduceMul, ms_n, ms_i, ms_l, ms_p, PX]
    refine h1 σ1 s1 h k1 f1 ?_
    rw [decide_eq_false (by omega)] at x1
    exact x1
  · simp (decide := true) only [RR, ms_app, toList_some, toList_none, if_true, if_false, true_and, and_true, cond_true, sm0, sm1, sm1l, sm2, lc_lt, lc_gt, lc_eq, Int.toNat_natCast, Int.reduceToNat, Nat.reduceAdd, Nat.reduceEqDiff, Int.reduceLT, Int.reduceEq, Int.reduceNeg, Int.reduceAdd, Int.reduceMul, Nat.reduceMul, ms_n, ms_i, ms_l, ms_p, PX, fxX hF, hX.st]
    refine cal_of rfl (x_fail ?_)
    simp (decide := true) only [RR, ms_app, toList_some, toList_none, if_true, if_false, true_and, and_true, cond_true, sm0, sm1, sm1l, sm2, lc_lt, lc_gt, lc_eq, Int.toNat_natCast, Int.reduceToNat, Nat.reduceAdd, Nat.reduceEqDiff, Int.reduceLT, Int.reduceEq, Int.reduceNeg, Int.reduceAdd, Int.reduceMul, Nat.reduceMul, ms_n, ms_i, ms_l, ms_p, PX]
    exact h0 h
theorem x_takeWord {w : Nat} (hw : w < 27) (hF : Fix σ) (hT : TxX σ N t) (hX : TX σ N t s g) (h1 : ∀ σ' e s', IsWd N t s g e w → Skp N t e s' → Fr [] tkL σ σ' → TX σ' N t s' (decide (s' = e)) → K (some (.inl 1)) σ') (h0 : (∀ e, ¬IsWd N t s g e w) → K (some (.inl 0)) (mj_set (mj_set σ 19 2 1) 19 3 (s : Int))) : Mt (d + 3) 50 [.inr (.inr 19), .inl (w : Int)] σ K := by
  refine Mt.go (lv := [some (.inr (.inr 19)), some (.inl (w : Int))]) rfl rfl rfl ?_
  refine At.blk rfl rfl rfl fun sx => ?_
  simp (decide := true) only [RR, ms_app, toList_some, toList_none, if_true, if_false, true_and, and_true, cond_true, sm0, sm1, sm1l, sm2, lc_lt, lc_gt, lc_eq, Int.toNat_natCast, Int.reduceToNat, Nat.reduceAdd, Nat.reduceEqDiff, Int.reduceLT, Int.reduceEq, Int.reduceNeg, Int.reduceAdd, Int.reduceMul, Nat.reduceMul, ms_n, ms_i, ms_l, ms_p, PX, fxX hF]
  refine cal_of rfl (x_isWord hw hX (fun e h q q3 => ?_) (fun h => ?_))
  · simp (decide := true) only [RR, ms_app, toList_some, toList_none, if_true, if_false, true_and, and_true, cond_true, sm0, sm1, sm1l, sm2, lc_lt, lc_gt, lc_eq, Int.toNat_natCast, Int.reduceToNat, Nat.reduceAdd, Nat.reduceEqDiff, Int.reduceLT, Int.reduceEq, Int.reduceNeg, Int.reduceAdd, Int.reduceMul, Nat.reduceMul, ms_n, ms_i, ms_l, ms_p, PX]
    refine At.blk rfl rfl rfl fun sx => ?_
    simp (decide := true) only [RR, ms_app, toList_some, toList_none, if_true, if_false, true_and, and_true, cond_true, sm0, sm1, sm1l, sm2, lc_lt, lc_gt, lc_eq, Int.toNat_natCast, Int.reduceToNat, Nat.reduceAdd, Nat.reduceEqDiff, Int.reduceLT, Int.reduceEq, Int.reduceNeg, Int.reduceAdd, Int.reduceMul, Nat.reduceMul, ms_n, ms_i, ms_l, ms_p, PX, fxX hF]
    refine cal_of rfl (x_next hF hT q q3 h.2.2.2.1.2.1 (fun σ1 s1 f1 k1 x1 => ?_))
    simp (decide := true) only [RR, ms_app, toList_some, toList_none, if_true, if_false, true_and, and_true, cond_true, sm0, sm1, sm1l, sm2, lc_lt, lc_gt, lc_eq, Int.toNat_natCast, Int.reduceToNat, Nat.reduceAdd, Nat.reduceEqDiff, Int.reduceLT, Int.reduceEq, Int.reduceNeg, Int.reduceAdd, Int.reduceMul, Nat.reduceMul, ms_n, ms_i, ms_l, ms_p, PX]
    refine h1 σ1 e s1 h k1 f1 ?_
    rw [show decide (((1 : Int) = 1 ∨ (1 : Int) = 2) ∧ s1 = e) = decide (s1 = e) by simp] at x1
    exact x1
  · simp (decide := true) only [RR, ms_app, toList_some, toList_none, if_true, if_false, true_and, and_true, cond_true, sm0, sm1, sm1l, sm2, lc_lt, lc_gt, lc_eq, Int.toNat_natCast, Int.reduceToNat, Nat.reduceAdd, Nat.reduceEqDiff, Int.reduceLT, Int.reduceEq, Int.reduceNeg, Int.reduceAdd, Int.reduceMul, Nat.reduceMul, ms_n, ms_i, ms_l, ms_p, PX, fxX hF, hX.st]
    refine cal_of rfl (x_fail ?_)
    simp (decide := true) only [RR, ms_app, toList_some, toList_none, if_true, if_false, true_and, and_true, cond_true, sm0, sm1, sm1l, sm2, lc_lt, lc_gt, lc_eq, Int.toNat_natCast, Int.reduceToNat, Nat.reduceAdd, Nat.reduceEqDiff, Int.reduceLT, Int.reduceEq, Int.reduceNeg, Int.reduceAdd, Int.reduceMul, Nat.reduceMul, ms_n, ms_i, ms_l, ms_p, PX]
    exact h0 h
/-- a number here, from a to b; else what fault, where -/
def NmF (N : Nat) (t : Nat → Int) (s : Nat) (g : Bool) (a b : Int) (k p : Int) : Prop := (k = 1 ∧ p = (s : Int) ∧ ∀ e, ¬IsNm N t s g e) ∨ (∃ e, IsNm N t s g e ∧ ((4 < e - s ∧ k = 1 ∧ p = ((s + 4 : Nat) : Int)) ∨ (e - s ≤ 4 ∧ ¬(a ≤ numV t s (e - s) ∧ numV t s (e - s) ≤ b) ∧ k = 2 ∧ p = (s : Int))))
theorem x_checkNumber {a b : Int} (hF : Fix σ) (hT : TxX σ N t) (hX : TX σ N t s g) (h1 : ∀ e, IsNm N t s g e → e - s ≤ 4 → (a ≤ numV t s (e - s) ∧ numV t s (e - s) ≤ b) → σ 20 1 = 2 → σ 20 3 = (e : Int) → σ 20 5 = numV t s (e - s) → K (some (.inl 1)) σ) (h0 : ∀ k p, NmF N t s g a b k p → K (some (.inl 0)) (mj_set (mj_set σ 19 2 k) 19 3 p)) : Mt (d + 2) 52 [.inr (.inr 19), .inl a, .inl b] σ K := by
  refine Mt.go (lv := [some (.inr (.inr 19)), some (.inl a), some (.inl b)]) rfl rfl rfl ?_
  have n16 := hT.2.1
  have sN := hX.le
  have no : σ 20 1 ≠ 2 → (∀ e, ¬IsNm N t s g e) → At (d + 1) 52 0 [some (.inr (.inr 19)), some (.inl a), some (.inl b)] [] σ K := by
    intro hq hn
    refine At.blk rfl rfl rfl fun sx => ?_
    simp (decide := true) only [RR, ms_app, toList_some, toList_none, if_true, if_false, true_and, and_true, cond_true, sm0, sm1, sm1l, sm2, lc_lt, lc_gt, lc_eq, Int.toNat_natCast, Int.reduceToNat, Nat.reduceAdd, Nat.reduceEqDiff, Int.reduceLT, Int.reduceEq, Int.reduceNeg, Int.reduceAdd, Int.reduceMul, Nat.reduceMul, ms_n, ms_i, ms_l, ms_p, PX, fxX hF, hX.st]
    rw [if_neg hq]
    refine cal_of rfl (x_fail ?_)
    simp (decide := true) only [RR, ms_app, toList_some, toList_none, if_true, if_false, true_and, and_true, cond_true, sm0, sm1, sm1l, sm2, lc_lt, lc_gt, lc_eq, Int.toNat_natCast, Int.reduceToNat, Nat.reduceAdd, Nat.reduceEqDiff, Int.reduceLT, Int.reduceEq, Int.reduceNeg, Int.reduceAdd, Int.reduceMul, Nat.reduceMul, ms_n, ms_i, ms_l, ms_p, PX]
    exact h0 1 s (Or.inl ⟨rfl, rfl, hn⟩)
  rcases hX.view with ⟨a1, q⟩ | ⟨e, a1, b1, l, r, q, q3, qw⟩ | ⟨e, a1, b1, l, r, q, q3, qn⟩ | ⟨a1, b1, l, l2, q, q3⟩ | ⟨a1, b1, l, q⟩
  · exact no (by omega) (fun e h => by have := h.2.1; omega)
  · exact no (by omega) (fun e h => ltr_dgt l h.2.2.1)
  · have hi : IsNm N t s g e := ⟨a1, b1, l, r⟩
    have r1 := r.1
    have r2 := r.2.1
    have w0 : Unit → w32 ((e : Int) - (s : Int)) = ((e - s : Nat) : Int) := fun _ => by rw [w32_small (by omega) (by omega)]; omega
    have w4 : Unit → w32 ((s : Int) + 4) = ((s + 4 : Nat) : Int) := fun _ => by rw [w32_small (by omega) (by omega)]; omega
    refine At.blk rfl rfl rfl fun sx => ?_
    simp (decide := true) only [RR, ms_app, toList_some, toList_none, if_true, if_false, true_and, and_true, cond_true, sm0, sm1, sm1l, sm2, lc_lt, lc_gt, lc_eq, Int.toNat_natCast, Int.reduceToNat, Nat.reduceAdd, Nat.reduceEqDiff, Int.reduceLT, Int.reduceEq, Int.reduceNeg, Int.reduceAdd, Int.reduceMul, Nat.reduceMul, ms_n, ms_i, ms_l, ms_p, PX, fxX hF, q]
    refine At.blk rfl rfl rfl fun sx => ?_
    simp (decide := true) only [RR, ms_app, toList_some, toList_none, if_true, if_false, true_and, and_true, cond_true, sm0, sm1, sm1l, sm2, lc_lt, lc_gt, lc_eq, Int.toNat_natCast, Int.reduceToNat, Nat.reduceAdd, Nat.reduceEqDiff, Int.reduceLT, Int.reduceEq, Int.reduceNeg, Int.reduceAdd, Int.reduceMul, Nat.reduceMul, ms_n, ms_i, ms_l, ms_p, PX, fxX hF]
    refine cal_of rfl (Mt.go (lv := [some (.inr (.inr 20))]) rfl rfl rfl ?_)
    refine At.blk rfl rfl rfl fun sx => ?_
    simp (decide := true) only [RR, ms_app, toList_some, toList_none, if_true, if_false, true_and, and_true, cond_true, sm0, sm1, sm1l, sm2, lc_lt, lc_gt, lc_eq, Int.toNat_natCast, Int.reduceToNat, Nat.reduceAdd, Nat.reduceEqDiff, Int.reduceLT, Int.reduceEq, Int.reduceNeg, Int.reduceAdd, Int.reduceMul, Nat.reduceMul, ms_n, ms_i, ms_l, ms_p, PX, hX.st, q3, w0 ()]
    by_cases c : 4 < ((e - s : Nat) : Int)
    · rw [if_pos c]
      simp (decide := true) only [RR, ms_app, toList_some, toList_none, if_true, if_false, true_and, and_true, cond_true, sm0, sm1, sm1l, sm2, lc_lt, lc_gt, lc_eq, Int.toNat_natCast, Int.reduceToNat, Nat.reduceAdd, Nat.reduceEqDiff, Int.reduceLT, Int.reduceEq, Int.reduceNeg, Int.reduceAdd, Int.reduceMul, Nat.reduceMul, ms_n, ms_i, ms_l, ms_p, PX, fxX hF, hX.st, w4 ()]
      refine cal_of rfl (x_fail ?_)
      simp (decide := true) only [RR, ms_app, toList_some, toList_none, if_true, if_false, true_and, and_true, cond_true, sm0, sm1, sm1l, sm2, lc_lt, lc_gt, lc_eq, Int.toNat_natCast, Int.reduceToNat, Nat.reduceAdd, Nat.reduceEqDiff, Int.reduceLT, Int.reduceEq, Int.reduceNeg, Int.reduceAdd, Int.reduceMul, Nat.reduceMul, ms_n, ms_i, ms_l, ms_p, PX]
      exact h0 1 _ (Or.inr ⟨e, hi, Or.inl ⟨by omega, rfl, rfl⟩⟩)
    · rw [if_neg c]
      have qn : σ 20 5 = numV t s (e - s) := by rw [qn, show min 4 (e - s) = e - s by omega]
      have three : ¬(a ≤ numV t s (e - s) ∧ numV t s (e - s) ≤ b) → At (d + 1) 52 3 [some (.inr (.inr 19)), some (.inl a), some (.inl b)] [] σ K := by
        intro hh
        refine At.blk rfl rfl rfl fun sx => ?_
        simp (decide := true) only [RR, ms_app, toList_some, toList_none, if_true, if_false, true_and, and_true, cond_true, sm0, sm1, sm1l, sm2, lc_lt, lc_gt, lc_eq, Int.toNat_natCast, Int.reduceToNat, Nat.reduceAdd, Nat.reduceEqDiff, Int.reduceLT, Int.reduceEq, Int.reduceNeg, Int.reduceAdd, Int.reduceMul, Nat.reduceMul, ms_n, ms_i, ms_l, ms_p, PX, fxX hF, hX.st]
        refine cal_of rfl (x_fail ?_)
        simp (decide := true) only [RR, ms_app, toList_some, toList_none, if_true, if_false, true_and, and_true, cond_true, sm0, sm1, sm1l, sm2, lc_lt, lc_gt, lc_eq, Int.toNat_natCast, Int.reduceToNat, Nat.reduceAdd, Nat.reduceEqDiff, Int.reduceLT, Int.reduceEq, Int.reduceNeg, Int.reduceAdd, Int.reduceMul, Nat.reduceMul, ms_n, ms_i, ms_l, ms_p, PX]
        exact h0 2 s (Or.inr ⟨e, hi, Or.inr ⟨by omega, hh, rfl, rfl⟩⟩)
      refine At.blk rfl rfl rfl fun sx => ?_
      simp (decide := true) only [RR, ms_app, toList_some, toList_none, if_true, if_false, true_and, and_true, cond_true, sm0, sm1, sm1l, sm2, lc_lt, lc_gt, lc_eq, Int.toNat_natCast, Int.reduceToNat, Nat.reduceAdd, Nat.reduceEqDiff, Int.reduceLT, Int.reduceEq, Int.reduceNeg, Int.reduceAdd, Int.reduceMul, Nat.reduceMul, ms_n, ms_i, ms_l, ms_p, PX, fxX hF, qn]
      by_cases c1 : numV t s (e - s) < a
      · rw [if_pos c1]; exact three (by omega)
      · rw [if_neg c1]
        by_cases c2 : b < numV t s (e - s)
        · rw [if_pos c2]; exact three (by omega)
        · rw [if_neg c2]
          refine At.blk rfl rfl rfl fun sx => ?_
          simp (decide := true) only [RR, ms_app, toList_some, toList_none, if_true, if_false, true_and, and_true, cond_true, sm0, sm1, sm1l, sm2, lc_lt, lc_gt, lc_eq, Int.toNat_natCast, Int.reduceToNat, Nat.reduceAdd, Nat.reduceEqDiff, Int.reduceLT, Int.reduceEq, Int.reduceNeg, Int.reduceAdd, Int.reduceMul, Nat.reduceMul, ms_n, ms_i, ms_l, ms_p, PX]
          exact h1 e hi (by omega) (by omega) q q3 qn
  · exact no (by omega) (fun e h => l2 h.2.2.1)
  · exact no (by omega) (fun e h => by rw [a1] at h; exact absurd h.1 (by decide))
end
