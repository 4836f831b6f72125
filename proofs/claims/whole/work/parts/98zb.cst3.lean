/-- a sum is told: rule r -/
def cyRu (r : Nat) (tk : Int) (N : Nat) (t : Nat → Int) (s : Nat) (g : Bool) (σ : mM) (s' : Nat) (g' : Bool) (τ : mM) : Prop := ∃ (L : Nat) (cs : List Int), ¬(σ 17 r < σ 18 r) ∧ σ 15 3 = (L : Int) ∧ AS N t tk 0 s g s' g' cs ∧ cs.length ≤ s' - s ∧ s < s' ∧ L < s ∧ (τ 11 = σ 11 ∧ τ 12 = σ 12 ∧ τ 13 = σ 13 ∧ τ 14 = σ 14) ∧ τ 15 3 = ((L + cs.length : Nat) : Int) ∧ τ 17 = mj_set σ 17 r (L : Int) 17 ∧ τ 18 = mj_set σ 18 r ((L + cs.length : Nat) : Int) 18 ∧ (∀ k, k < L → τ 16 k = σ 16 k) ∧ ∀ (j : Nat) (h : j < cs.length), StepR (τ 16 (L + j)) cs[j]
def cyRn (r : Nat) (tk : Int) (N : Nat) (t : Nat → Int) (s0 s : Nat) (g : Bool) (σ : mM) (k x : Int) : Prop := (σ 17 r < σ 18 r ∧ k = 5 ∧ x = (s0 : Int)) ∨ (¬(σ 17 r < σ 18 r) ∧ 0 < s ∧ SSno N t tk 0 s g k x)
def cyW (w : Nat) : Prop := w = 0 ∨ (2 ≤ w ∧ w ≤ 9)
def cyB (w : Nat) (N : Nat) (t : Nat → Int) (s : Nat) (g : Bool) (σ : mM) (s' : Nat) (g' : Bool) (τ : mM) : Prop := (w = 0 ∧ cyPa N t s g σ s' g' τ) ∨ (w = 2 ∧ cyNr N t s g σ s' g' τ) ∨ (w = 3 ∧ cyFl 6 N t s g σ s' g' τ) ∨ (w = 4 ∧ cyFl 7 N t s g σ s' g' τ) ∨ (w = 5 ∧ cyRu 0 0 N t s g σ s' g' τ) ∨ (w = 6 ∧ cyRu 1 0 N t s g σ s' g' τ) ∨ (w = 7 ∧ cyRu 2 1 N t s g σ s' g' τ) ∨ (w = 8 ∧ cySe 8 1 20 N t s g σ s' g' τ) ∨ (w = 9 ∧ cySe 9 0 100 N t s g σ s' g' τ)
def cyC (w : Nat) (N : Nat) (t : Nat → Int) (s0 s : Nat) (g : Bool) (σ : mM) (k x : Int) : Prop := (w = 0 ∧ cyPn N t s0 s g σ k x) ∨ (w = 2 ∧ cyNn N t s0 s g σ k x) ∨ (w = 3 ∧ cyFn 6 N t s0 s g σ k x) ∨ (w = 4 ∧ cyFn 7 N t s0 s g σ k x) ∨ (w = 5 ∧ cyRn 0 0 N t s0 s g σ k x) ∨ (w = 6 ∧ cyRn 1 0 N t s0 s g σ k x) ∨ (w = 7 ∧ cyRn 2 1 N t s0 s g σ k x) ∨ (w = 8 ∧ cySn 1 20 N t s0 s g σ k x) ∨ (w = 9 ∧ cySn 0 100 N t s0 s g σ k x)
/-- a statement without its end sign; one that fails -/
def cyS (N : Nat) (t : Nat → Int) (s0 : Nat) (σ : mM) (s' : Nat) (g' : Bool) (τ : mM) : Prop := ∃ w e s1, IsWd N t s0 false e w ∧ Skp N t e s1 ∧ s1 ≤ s' ∧ cyB w N t s1 (decide (s1 = e)) σ s' g' τ
def cySx (N : Nat) (t : Nat → Int) (s0 : Nat) (σ : mM) (k x : Int) : Prop := (k = 1 ∧ x = (s0 : Int) ∧ ∀ w, cyW w → ∀ e, ¬IsWd N t s0 false e w) ∨ ∃ w e s1, IsWd N t s0 false e w ∧ Skp N t e s1 ∧ cyC w N t s0 s1 (decide (s1 = e)) σ k x
section
variable {N : Nat} {t : Nat → Int}
theorem cyRu.cg {r : Nat} {tk : Int} {s s' : Nat} {g g' : Bool} {σ τ υ : mM} (h : cyRu r tk N t s g σ s' g' τ) (e : cyE υ τ) : cyRu r tk N t s g σ s' g' υ := by
  unfold cyRu at *
  rw [e 11 (by decide) (by decide), e 12 (by decide) (by decide), e 13 (by decide) (by decide), e 14 (by decide) (by decide), e 15 (by decide) (by decide), e 16 (by decide) (by decide), e 17 (by decide) (by decide), e 18 (by decide) (by decide)]
  exact h
theorem cyS.cg {s s' : Nat} {g' : Bool} {σ τ υ : mM} (h : cyS N t s σ s' g' τ) (e : cyE υ τ) : cyS N t s σ s' g' υ := by
  obtain ⟨w, a, s1, h1, h2, h2b, h3⟩ := h
  refine ⟨w, a, s1, h1, h2, h2b, ?_⟩
  rcases h3 with ⟨a0, h⟩ | ⟨a0, h⟩ | ⟨a0, h⟩ | ⟨a0, h⟩ | ⟨a0, h⟩ | ⟨a0, h⟩ | ⟨a0, h⟩ | ⟨a0, h⟩ | ⟨a0, h⟩
  · obtain ⟨n, e1, s2, e2, s3, e3, b1, b2, b3, b4, b5, b6, b7, b8, b9, c1, c2, c3, c4⟩ := h
    exact Or.inl ⟨a0, n, e1, s2, e2, s3, e3, b1, b2, b3, b4, b5, b6, b7, b8, b9, c1, c2, c3, e.trans c4⟩
  · obtain ⟨n, m, e1, p, s2, e2, q, b1, b2, b3, b4, b5, b6, b7, b8, b9, c1, c2, c4⟩ := h
    exact Or.inr (Or.inl ⟨a0, n, m, e1, p, s2, e2, q, b1, b2, b3, b4, b5, b6, b7, b8, b9, c1, c2, e.trans c4⟩)
  · obtain ⟨n, e1, p, b1, b2, b3, b4, b5, b6, c4⟩ := h
    exact Or.inr (Or.inr (Or.inl ⟨a0, n, e1, p, b1, b2, b3, b4, b5, b6, e.trans c4⟩))
  · obtain ⟨n, e1, p, b1, b2, b3, b4, b5, b6, c4⟩ := h
    exact Or.inr (Or.inr (Or.inr (Or.inl ⟨a0, n, e1, p, b1, b2, b3, b4, b5, b6, e.trans c4⟩)))
  · exact Or.inr (Or.inr (Or.inr (Or.inr (Or.inl ⟨a0, h.cg e⟩))))
  · exact Or.inr (Or.inr (Or.inr (Or.inr (Or.inr (Or.inl ⟨a0, h.cg e⟩)))))
  · exact Or.inr (Or.inr (Or.inr (Or.inr (Or.inr (Or.inr (Or.inl ⟨a0, h.cg e⟩))))))
  · obtain ⟨e1, b1, b2, b3, b4, b5, c4⟩ := h
    exact Or.inr (Or.inr (Or.inr (Or.inr (Or.inr (Or.inr (Or.inr (Or.inl ⟨a0, e1, b1, b2, b3, b4, b5, e.trans c4⟩)))))))
  · obtain ⟨e1, b1, b2, b3, b4, b5, c4⟩ := h
    exact Or.inr (Or.inr (Or.inr (Or.inr (Or.inr (Or.inr (Or.inr (Or.inr ⟨a0, e1, b1, b2, b3, b4, b5, e.trans c4⟩)))))))
theorem x_open {r L d : Nat} {σ : mM} {K : Option mV → mM → Prop} {s0 e s1 : Nat} (hr : r < 3) (hF : Fix σ) (hT : TxX σ N t) (hX : TX σ N t s0 false) (q1 : σ 20 1 = 1) (q3 : σ 20 3 = (e : Int)) (he : e ≤ N) (hk : Skp N t e s1) (hL : σ 15 3 = (L : Int))
    (h0 : σ 17 r < σ 18 r → ∀ σ', Fr cyL cyT σ σ' → σ' 19 2 = 5 → σ' 19 3 = (s0 : Int) → K (some (.inl 0)) σ')
    (h1 : ¬(σ 17 r < σ 18 r) → ∀ σ2, Fr cyL cyT σ σ2 → TX σ2 N t s1 (decide (s1 = e)) → σ2 19 2 = σ 19 2 → σ2 19 3 = σ 19 3 → σ2 19 5 = (r : Int) → σ2 15 3 = (L : Int) → (σ2 11 = σ 11 ∧ σ2 12 = σ 12 ∧ σ2 13 = σ 13 ∧ σ2 14 = σ 14 ∧ σ2 16 = σ 16 ∧ σ2 18 = σ 18 ∧ σ2 17 = mj_set σ 17 r (L : Int) 17) → K (some (.inl 1)) σ2) : Mt (d + 40) 45 [.inr (.inr 19), .inl (r : Int)] σ K := by
  refine Mt.go (lv := [some (.inr (.inr 19)), some (.inl (r : Int))]) rfl rfl rfl ?_
  refine At.blk rfl rfl rfl fun sx => ?_
  simp (decide := true) only [RR, ms_app, toList_some, toList_none, if_true, if_false, true_and, and_true, cond_true, sm0, sm1, sm1l, sm2, lc_lt, lc_gt, lc_eq, Int.toNat_natCast, Int.reduceToNat, Nat.reduceAdd, Nat.reduceEqDiff, Int.reduceLT, Int.reduceEq, Int.reduceNeg, Int.reduceAdd, Int.reduceMul, Nat.reduceMul, ms_n, ms_i, ms_l, ms_p, PX, fxX hF]
  refine cal_of rfl (x_isTold hF (by omega) ?_)
  by_cases c : σ 17 r < σ 18 r
  · rw [if_pos c]
    simp (decide := true) only [RR, ms_app, toList_some, toList_none, if_true, if_false, true_and, and_true, cond_true, sm0, sm1, sm1l, sm2, lc_lt, lc_gt, lc_eq, Int.toNat_natCast, Int.reduceToNat, Nat.reduceAdd, Nat.reduceEqDiff, Int.reduceLT, Int.reduceEq, Int.reduceNeg, Int.reduceAdd, Int.reduceMul, Nat.reduceMul, ms_n, ms_i, ms_l, ms_p, PX, fxX hF, hX.st]
    refine cal_of rfl (x_fail ?_)
    simp (decide := true) only [RR, ms_app, toList_some, toList_none, if_true, if_false, true_and, and_true, cond_true, sm0, sm1, sm1l, sm2, lc_lt, lc_gt, lc_eq, Int.toNat_natCast, Int.reduceToNat, Nat.reduceAdd, Nat.reduceEqDiff, Int.reduceLT, Int.reduceEq, Int.reduceNeg, Int.reduceAdd, Int.reduceMul, Nat.reduceMul, ms_n, ms_i, ms_l, ms_p, PX]
    exact h0 c _ ((Fr.same.set rfl).set rfl) rfl rfl
  · rw [if_neg c]
    simp (decide := true) only [RR, ms_app, toList_some, toList_none, if_true, if_false, true_and, and_true, cond_true, sm0, sm1, sm1l, sm2, lc_lt, lc_gt, lc_eq, Int.toNat_natCast, Int.reduceToNat, Nat.reduceAdd, Nat.reduceEqDiff, Int.reduceLT, Int.reduceEq, Int.reduceNeg, Int.reduceAdd, Int.reduceMul, Nat.reduceMul, ms_n, ms_i, ms_l, ms_p, PX]
    refine At.blk rfl rfl rfl fun sx => ?_
    simp (decide := true) only [RR, ms_app, toList_some, toList_none, if_true, if_false, true_and, and_true, cond_true, sm0, sm1, sm1l, sm2, lc_lt, lc_gt, lc_eq, Int.toNat_natCast, Int.reduceToNat, Nat.reduceAdd, Nat.reduceEqDiff, Int.reduceLT, Int.reduceEq, Int.reduceNeg, Int.reduceAdd, Int.reduceMul, Nat.reduceMul, ms_n, ms_i, ms_l, ms_p, PX, fxX hF]
    refine cal_of rfl (x_next hF hT q1 q3 he (fun σ1 s2 f1 k1 x1 => ?_))
    obtain rfl := k1.uniq hk
    rw [show decide (((1 : Int) = 1 ∨ (1 : Int) = 2) ∧ s2 = e) = decide (s2 = e) by simp] at x1
    have F1 : Fr cyL cyT σ σ1 := f1.mono rfl
    have hF1 := hF.fr F1 rfl
    have hF1' : Fix (mj_set σ1 19 5 (r : Int)) := hF1.set rfl
    simp (decide := true) only [RR, ms_app, toList_some, toList_none, if_true, if_false, true_and, and_true, cond_true, sm0, sm1, sm1l, sm2, lc_lt, lc_gt, lc_eq, Int.toNat_natCast, Int.reduceToNat, Nat.reduceAdd, Nat.reduceEqDiff, Int.reduceLT, Int.reduceEq, Int.reduceNeg, Int.reduceAdd, Int.reduceMul, Nat.reduceMul, ms_n, ms_i, ms_l, ms_p, PX, fxX hF1]
    refine cal_of rfl (x_ropenR (v := (L : Int)) hF1' (by omega) (by show σ1 15 3 = _; rw [f1 15 3 rfl]; exact hL) ?_)
    have F2 : Fr cyL cyT σ (mj_set (mj_set σ1 19 5 (r : Int)) 17 r (L : Int)) := (F1.set rfl).setr rfl
    have g2 : mj_set (mj_set σ1 19 5 (r : Int)) 17 r (L : Int) 19 2 = σ 19 2 := f1 19 2 rfl
    have g3 : mj_set (mj_set σ1 19 5 (r : Int)) 17 r (L : Int) 19 3 = σ 19 3 := f1 19 3 rfl
    have g5 : mj_set (mj_set σ1 19 5 (r : Int)) 17 r (L : Int) 19 5 = (r : Int) := rfl
    have g15 : mj_set (mj_set σ1 19 5 (r : Int)) 17 r (L : Int) 15 3 = (L : Int) := (f1 15 3 rfl).trans hL
    have x2 : TX (mj_set (mj_set σ1 19 5 (r : Int)) 17 r (L : Int)) N t s2 (decide (s2 = e)) := x1.cg rfl
    have v11 : mj_set (mj_set σ1 19 5 (r : Int)) 17 r (L : Int) 11 = σ 11 := f1.row 11 rfl
    have v12 : mj_set (mj_set σ1 19 5 (r : Int)) 17 r (L : Int) 12 = σ 12 := f1.row 12 rfl
    have v13 : mj_set (mj_set σ1 19 5 (r : Int)) 17 r (L : Int) 13 = σ 13 := f1.row 13 rfl
    have v14 : mj_set (mj_set σ1 19 5 (r : Int)) 17 r (L : Int) 14 = σ 14 := f1.row 14 rfl
    have v16 : mj_set (mj_set σ1 19 5 (r : Int)) 17 r (L : Int) 16 = σ 16 := f1.row 16 rfl
    have v18 : mj_set (mj_set σ1 19 5 (r : Int)) 17 r (L : Int) 18 = σ 18 := f1.row 18 rfl
    have v17 : mj_set (mj_set σ1 19 5 (r : Int)) 17 r (L : Int) 17 = mj_set σ 17 r (L : Int) 17 := by
      funext j
      show (if j = r then (L : Int) else σ1 17 j) = (if j = r then (L : Int) else σ 17 j)
      rw [f1.row 17 rfl]
    simp (decide := true) only [RR, ms_app, toList_some, toList_none, if_true, if_false, true_and, and_true, cond_true, sm0, sm1, sm1l, sm2, lc_lt, lc_gt, lc_eq, Int.toNat_natCast, Int.reduceToNat, Nat.reduceAdd, Nat.reduceEqDiff, Int.reduceLT, Int.reduceEq, Int.reduceNeg, Int.reduceAdd, Int.reduceMul, Nat.reduceMul, ms_n, ms_i, ms_l, ms_p, PX]
    exact h1 c _ F2 x2 g2 g3 g5 g15 ⟨v11, v12, v13, v14, v16, v18, v17⟩
theorem x_close {r d : Nat} {v : Int} {σ : mM} {K : Option mV → mM → Prop} (hF : Fix σ) (hr : r < 4) (e5 : σ 19 5 = (r : Int)) (e : σ 15 3 = v) (hK : K (some (.inl 1)) (mj_set σ 18 r v)) : Mt (d + 2) 281 [.inr (.inr 19)] σ K := by
  refine Mt.go (lv := [some (.inr (.inr 19))]) rfl rfl rfl ?_
  refine At.blk rfl rfl rfl fun sx => ?_
  simp (decide := true) only [RR, ms_app, toList_some, toList_none, if_true, if_false, true_and, and_true, cond_true, sm0, sm1, sm1l, sm2, lc_lt, lc_gt, lc_eq, Int.toNat_natCast, Int.reduceToNat, Nat.reduceAdd, Nat.reduceEqDiff, Int.reduceLT, Int.reduceEq, Int.reduceNeg, Int.reduceAdd, Int.reduceMul, Nat.reduceMul, ms_n, ms_i, ms_l, ms_p, PX, fxX hF, e5]
  refine cal_of rfl (x_rcloseR (v := v) hF hr e ?_)
  simp (decide := true) only [RR, ms_app, toList_some, toList_none, if_true, if_false, true_and, and_true, cond_true, sm0, sm1, sm1l, sm2, lc_lt, lc_gt, lc_eq, Int.toNat_natCast, Int.reduceToNat, Nat.reduceAdd, Nat.reduceEqDiff, Int.reduceLT, Int.reduceEq, Int.reduceNeg, Int.reduceAdd, Int.reduceMul, Nat.reduceMul, ms_n, ms_i, ms_l, ms_p, PX]
  exact hK
/-- a sum's three calls, one behind the other -/
theorem x_rule {r : Nat} {tk : Int} (hr : r < 3) (hsc : scR (r : Int) tk) {d : Nat} {σ : mM} {K : Option mV → mM → Prop} {s0 e s1 : Nat} (hF : Fix σ) (hT : TxX σ N t) (hX : TX σ N t s0 false) (q1 : σ 20 1 = 1) (q3 : σ 20 3 = (e : Int)) (hse : s0 < e) (he : e ≤ N) (hk : Skp N t e s1) (hD : cyD σ s0)
    (h1 : ∀ σ' s' g', Fr cyL cyT σ σ' → TX σ' N t s' g' → s1 ≤ s' → σ' 19 2 = σ 19 2 → σ' 19 3 = σ 19 3 → cyD σ' s' → cyRu r tk N t s1 (decide (s1 = e)) σ s' g' σ' → K (some (.inl 1)) σ')
    (h0 : ∀ σ' k x, Fr cyL cyT σ σ' → σ' 19 2 = k → σ' 19 3 = x → cyRn r tk N t s0 s1 (decide (s1 = e)) σ k x → K (some (.inl 0)) σ') : Mt (d + 40) 45 [.inr (.inr 19), .inl (r : Int)] σ (fun v τ => (v = some (.inl 0) ∧ K (some (.inl 0)) τ) ∨ (v = some (.inl 1) ∧ Mt (d + 40) 56 [.inr (.inr 19), .inl 0] τ (fun v τ => (v = some (.inl 0) ∧ K (some (.inl 0)) τ) ∨ (v = some (.inl 1) ∧ Mt (d + 40) 281 [.inr (.inr 19)] τ (fun v τ => v = some (.inl 1) ∧ K (some (.inl 1)) τ))))) := by
  obtain ⟨L, hL⟩ := Int.eq_ofNat_of_zero_le hD.2.2.2.2.2.1
  have Ls := hD.2.2.2.2.2.2
  rw [hL] at Ls
  have n16 := hT.2.1
  have s1e := hk.1
  refine x_open (L := L) hr hF hT hX q1 q3 he hk hL (fun c σ' f u2 u3 => Or.inl ⟨rfl, h0 σ' 5 s0 f u2 u3 (Or.inl ⟨c, rfl, rfl⟩)⟩) (fun c σ2 F2 x2 g2 g3 g5 g15 hv => Or.inr ⟨rfl, ?_⟩)
  obtain ⟨v11, v12, v13, v14, v16, v18, v17⟩ := hv
  have hF2 := hF.fr F2 rfl
  have hT2 : TxX σ2 N t := hT.cg (F2 1 1 rfl) (F2.row 2 rfl)
  refine (X_all (N := N) (t := t) (sc := (r : Int)) (tk := tk) hsc _ 0 rfl (by omega)).2 (d + 40) σ2 _ s1 (decide (s1 = e)) L (by unfold dS; omega) hF2 hT2 x2 g15 (by omega) g5 (fun σ6 s' g' cs f6 x6 hs6 hc6 a6 hA => Or.inr ⟨rfl, ?_⟩) (fun σ6 k p f6 a1 a2 hB => Or.inl ⟨rfl, h0 σ6 k p (F2.trans (f6.mono rfl)) a1 a2 (Or.inr ⟨c, by omega, hB⟩)⟩)
  have F6 : Fr cyL cyT σ σ6 := F2.trans (f6.mono rfl)
  have hF6 := hF.fr F6 rfl
  refine x_close (r := r) (v := ((L + cs.length : Nat) : Int)) hF6 (by omega) ((f6 19 5 rfl).trans g5) a6.1 ⟨rfl, ?_⟩
  refine h1 _ s' g' (F6.setr rfl) (x6.cg rfl) (by omega) (a6.2.1.2.1.trans g2) (a6.2.1.2.2.trans g3) ?_ ⟨L, cs, c, hL, hA, hc6, hs6, by omega, ⟨(f6.row 11 rfl).trans v11, (f6.row 12 rfl).trans v12, (f6.row 13 rfl).trans v13, (f6.row 14 rfl).trans v14⟩, a6.1, (f6.row 17 rfl).trans v17, ?_, fun k hk => (a6.2.1.1 k hk).trans (by rw [v16]), a6.2.2⟩
  · have r11 : mj_set σ6 18 r ((L + cs.length : Nat) : Int) 11 = σ 11 := (f6.row 11 rfl).trans v11
    have r14 : mj_set σ6 18 r ((L + cs.length : Nat) : Int) 14 = σ 14 := (f6.row 14 rfl).trans v14
    have r15 : mj_set σ6 18 r ((L + cs.length : Nat) : Int) 15 3 = ((L + cs.length : Nat) : Int) := a6.1
    unfold cyD
    rw [r11, r14, r15]
    obtain ⟨d1, d2, d3, d4, d5, d6⟩ := hD
    exact ⟨d1, d2, d3, d4, d5, by omega, by omega⟩
  · funext j
    rw [ms_app, ms_app, if_pos rfl, if_pos rfl, f6.row 18 rfl, v18]
theorem x_statement {d : Nat} {σ : mM} {K : Option mV → mM → Prop} {s0 : Nat} (hF : Fix σ) (hT : TxX σ N t) (hX : TX σ N t s0 false) (hD : cyD σ s0)
    (h1 : ∀ σ' s' g', Fr cyL cyT σ σ' → TX σ' N t s' g' → s0 < s' → σ' 19 2 = σ 19 2 → σ' 19 3 = σ 19 3 → cyD σ' s' → cyS N t s0 σ s' g' σ' → K (some (.inl 1)) σ')
    (h0 : ∀ σ' k x, Fr cyL cyT σ σ' → σ' 19 2 = k → σ' 19 3 = x → cySx N t s0 σ k x → K (some (.inl 0)) σ') : Mt (d + 41) 40 [.inr (.inr 19)] σ K := by
  refine Mt.go (lv := [some (.inr (.inr 19))]) rfl rfl rfl ?_
  have bad : (∀ w, cyW w → ∀ e, ¬IsWd N t s0 false e w) → At (d + 40) 40 18 [some (.inr (.inr 19))] [] σ K := by
    intro h
    refine At.blk rfl rfl rfl fun sx => ?_
    simp (decide := true) only [RR, ms_app, toList_some, toList_none, if_true, if_false, true_and, and_true, cond_true, sm0, sm1, sm1l, sm2, lc_lt, lc_gt, lc_eq, Int.toNat_natCast, Int.reduceToNat, Nat.reduceAdd, Nat.reduceEqDiff, Int.reduceLT, Int.reduceEq, Int.reduceNeg, Int.reduceAdd, Int.reduceMul, Nat.reduceMul, ms_n, ms_i, ms_l, ms_p, PX, fxX hF, hX.st]
    refine cal_of rfl (x_fail ?_)
    simp (decide := true) only [RR, ms_app, toList_some, toList_none, if_true, if_false, true_and, and_true, cond_true, sm0, sm1, sm1l, sm2, lc_lt, lc_gt, lc_eq, Int.toNat_natCast, Int.reduceToNat, Nat.reduceAdd, Nat.reduceEqDiff, Int.reduceLT, Int.reduceEq, Int.reduceNeg, Int.reduceAdd, Int.reduceMul, Nat.reduceMul, ms_n, ms_i, ms_l, ms_p, PX]
    exact h0 _ 1 s0 ((Fr.same.set rfl).set rfl) rfl rfl (Or.inl ⟨rfl, rfl, h⟩)
  have miss : ∀ v : Int, (∀ w : Nat, cyW w → v ≠ (w : Int)) → (∀ w, cyW w → ∀ e, ¬IsWd N t s0 false e w) → At (d + 40) 40 2 [some (.inr (.inr 19))] [.inl v] σ K := by
    intro v hv hn
    have a0 : v ≠ 0 := hv 0 (Or.inl rfl)
    have a2 : v ≠ 2 := hv 2 (Or.inr (by decide))
    have a3 : v ≠ 3 := hv 3 (Or.inr (by decide))
    have a4 : v ≠ 4 := hv 4 (Or.inr (by decide))
    have a5 : v ≠ 5 := hv 5 (Or.inr (by decide))
    have a6 : v ≠ 6 := hv 6 (Or.inr (by decide))
    have a7 : v ≠ 7 := hv 7 (Or.inr (by decide))
    have a8 : v ≠ 8 := hv 8 (Or.inr (by decide))
    have a9 : v ≠ 9 := hv 9 (Or.inr (by decide))
    refine At.blk rfl rfl rfl fun sx => ?_
    simp (decide := true) only [RR, ms_app, toList_some, toList_none, if_true, if_false, true_and, and_true, cond_true, sm0, sm1, sm1l, sm2, lc_lt, lc_gt, lc_eq, Int.toNat_natCast, Int.reduceToNat, Nat.reduceAdd, Nat.reduceEqDiff, Int.reduceLT, Int.reduceEq, Int.reduceNeg, Int.reduceAdd, Int.reduceMul, Nat.reduceMul, ms_n, ms_i, ms_l, ms_p, PX]
    rw [if_neg a0]
    by_cases c1 : v = 1
    · rw [if_pos c1]; exact bad hn
    · rw [if_neg c1, if_neg a2, if_neg a3, if_neg a4, if_neg a5, if_neg a6, if_neg a7, if_neg a8, if_neg a9]
      exact bad hn
  have hit : ∀ w e : Nat, cyW w → IsWd N t s0 false e w → σ 20 1 = 1 → σ 20 3 = (e : Int) → At (d + 40) 40 2 [some (.inr (.inr 19))] [.inl (w : Int)] σ K := by
    intro w e hw hi q1 q3
    have w27 : w < 27 := by unfold cyW at hw; omega
    have hlt := hi.lt w27
    have heN := hi.2.2.2.1.2.1
    obtain ⟨s1, hk⟩ := skp_ex (N := N) (t := t) _ e rfl heN
    have z1 := hk.1
    rcases (show w = 0 ∨ w = 2 ∨ w = 3 ∨ w = 4 ∨ w = 5 ∨ w = 6 ∨ w = 7 ∨ w = 8 ∨ w = 9 by unfold cyW at hw; omega) with rfl | rfl | rfl | rfl | rfl | rfl | rfl | rfl | rfl
    · show At (d + 40) 40 2 [some (.inr (.inr 19))] [.inl 0] σ K
      refine At.blk rfl rfl rfl fun sx => ?_
      simp (decide := true) only [RR, ms_app, toList_some, toList_none, if_true, if_false, true_and, and_true, cond_true, sm0, sm1, sm1l, sm2, lc_lt, lc_gt, lc_eq, Int.toNat_natCast, Int.reduceToNat, Nat.reduceAdd, Nat.reduceEqDiff, Int.reduceLT, Int.reduceEq, Int.reduceNeg, Int.reduceAdd, Int.reduceMul, Nat.reduceMul, ms_n, ms_i, ms_l, ms_p, PX]
      refine At.blk rfl rfl rfl fun sx => ?_
      simp (decide := true) only [RR, ms_app, toList_some, toList_none, if_true, if_false, true_and, and_true, cond_true, sm0, sm1, sm1l, sm2, lc_lt, lc_gt, lc_eq, Int.toNat_natCast, Int.reduceToNat, Nat.reduceAdd, Nat.reduceEqDiff, Int.reduceLT, Int.reduceEq, Int.reduceNeg, Int.reduceAdd, Int.reduceMul, Nat.reduceMul, ms_n, ms_i, ms_l, ms_p, PX]
      refine cal_of rfl (x_partS d σ _ s0 e s1 hF hT hX q1 q3 hlt heN hk hD (fun σ' s' g' f x hs u2 u3 dd hA => ?_) (fun σ' k x f u2 u3 hB => ?_))
      · simp (decide := true) only [RR, ms_app, toList_some, toList_none, if_true, if_false, true_and, and_true, cond_true, sm0, sm1, sm1l, sm2, lc_lt, lc_gt, lc_eq, Int.toNat_natCast, Int.reduceToNat, Nat.reduceAdd, Nat.reduceEqDiff, Int.reduceLT, Int.reduceEq, Int.reduceNeg, Int.reduceAdd, Int.reduceMul, Nat.reduceMul, ms_n, ms_i, ms_l, ms_p, PX]
        exact h1 σ' s' g' f x (by omega) u2 u3 dd ⟨0, e, s1, hi, hk, hs, (Or.inl ⟨rfl, hA⟩)⟩
      · simp (decide := true) only [RR, ms_app, toList_some, toList_none, if_true, if_false, true_and, and_true, cond_true, sm0, sm1, sm1l, sm2, lc_lt, lc_gt, lc_eq, Int.toNat_natCast, Int.reduceToNat, Nat.reduceAdd, Nat.reduceEqDiff, Int.reduceLT, Int.reduceEq, Int.reduceNeg, Int.reduceAdd, Int.reduceMul, Nat.reduceMul, ms_n, ms_i, ms_l, ms_p, PX]
        exact h0 σ' k x f u2 u3 (Or.inr ⟨0, e, s1, hi, hk, (Or.inl ⟨rfl, hB⟩)⟩)
    · show At (d + 40) 40 2 [some (.inr (.inr 19))] [.inl 2] σ K
      refine At.blk rfl rfl rfl fun sx => ?_
      simp (decide := true) only [RR, ms_app, toList_some, toList_none, if_true, if_false, true_and, and_true, cond_true, sm0, sm1, sm1l, sm2, lc_lt, lc_gt, lc_eq, Int.toNat_natCast, Int.reduceToNat, Nat.reduceAdd, Nat.reduceEqDiff, Int.reduceLT, Int.reduceEq, Int.reduceNeg, Int.reduceAdd, Int.reduceMul, Nat.reduceMul, ms_n, ms_i, ms_l, ms_p, PX]
      refine At.blk rfl rfl rfl fun sx => ?_
      simp (decide := true) only [RR, ms_app, toList_some, toList_none, if_true, if_false, true_and, and_true, cond_true, sm0, sm1, sm1l, sm2, lc_lt, lc_gt, lc_eq, Int.toNat_natCast, Int.reduceToNat, Nat.reduceAdd, Nat.reduceEqDiff, Int.reduceLT, Int.reduceEq, Int.reduceNeg, Int.reduceAdd, Int.reduceMul, Nat.reduceMul, ms_n, ms_i, ms_l, ms_p, PX]
      refine cal_of rfl (x_near d σ _ s0 e s1 hF hT hX q1 q3 hlt heN hk hD (fun σ' s' g' f x hs u2 u3 dd hA => ?_) (fun σ' k x f u2 u3 hB => ?_))
      · simp (decide := true) only [RR, ms_app, toList_some, toList_none, if_true, if_false, true_and, and_true, cond_true, sm0, sm1, sm1l, sm2, lc_lt, lc_gt, lc_eq, Int.toNat_natCast, Int.reduceToNat, Nat.reduceAdd, Nat.reduceEqDiff, Int.reduceLT, Int.reduceEq, Int.reduceNeg, Int.reduceAdd, Int.reduceMul, Nat.reduceMul, ms_n, ms_i, ms_l, ms_p, PX]
        exact h1 σ' s' g' f x (by omega) u2 u3 dd ⟨2, e, s1, hi, hk, hs, (Or.inr (Or.inl ⟨rfl, hA⟩))⟩
      · simp (decide := true) only [RR, ms_app, toList_some, toList_none, if_true, if_false, true_and, and_true, cond_true, sm0, sm1, sm1l, sm2, lc_lt, lc_gt, lc_eq, Int.toNat_natCast, Int.reduceToNat, Nat.reduceAdd, Nat.reduceEqDiff, Int.reduceLT, Int.reduceEq, Int.reduceNeg, Int.reduceAdd, Int.reduceMul, Nat.reduceMul, ms_n, ms_i, ms_l, ms_p, PX]
        exact h0 σ' k x f u2 u3 (Or.inr ⟨2, e, s1, hi, hk, (Or.inr (Or.inl ⟨rfl, hB⟩))⟩)
    · show At (d + 40) 40 2 [some (.inr (.inr 19))] [.inl 3] σ K
      refine At.blk rfl rfl rfl fun sx => ?_
      simp (decide := true) only [RR, ms_app, toList_some, toList_none, if_true, if_false, true_and, and_true, cond_true, sm0, sm1, sm1l, sm2, lc_lt, lc_gt, lc_eq, Int.toNat_natCast, Int.reduceToNat, Nat.reduceAdd, Nat.reduceEqDiff, Int.reduceLT, Int.reduceEq, Int.reduceNeg, Int.reduceAdd, Int.reduceMul, Nat.reduceMul, ms_n, ms_i, ms_l, ms_p, PX]
      refine At.blk rfl rfl rfl fun sx => ?_
      simp (decide := true) only [RR, ms_app, toList_some, toList_none, if_true, if_false, true_and, and_true, cond_true, sm0, sm1, sm1l, sm2, lc_lt, lc_gt, lc_eq, Int.toNat_natCast, Int.reduceToNat, Nat.reduceAdd, Nat.reduceEqDiff, Int.reduceLT, Int.reduceEq, Int.reduceNeg, Int.reduceAdd, Int.reduceMul, Nat.reduceMul, ms_n, ms_i, ms_l, ms_p, PX]
      refine cal_of rfl (x_aunt d σ _ s0 e s1 hF hT hX q1 q3 hlt heN hk hD (fun σ' s' g' f x hs u2 u3 dd hA => ?_) (fun σ' k x f u2 u3 hB => ?_))
      · simp (decide := true) only [RR, ms_app, toList_some, toList_none, if_true, if_false, true_and, and_true, cond_true, sm0, sm1, sm1l, sm2, lc_lt, lc_gt, lc_eq, Int.toNat_natCast, Int.reduceToNat, Nat.reduceAdd, Nat.reduceEqDiff, Int.reduceLT, Int.reduceEq, Int.reduceNeg, Int.reduceAdd, Int.reduceMul, Nat.reduceMul, ms_n, ms_i, ms_l, ms_p, PX]
        exact h1 σ' s' g' f x (by omega) u2 u3 dd ⟨3, e, s1, hi, hk, hs, (Or.inr (Or.inr (Or.inl ⟨rfl, hA⟩)))⟩
      · simp (decide := true) only [RR, ms_app, toList_some, toList_none, if_true, if_false, true_and, and_true, cond_true, sm0, sm1, sm1l, sm2, lc_lt, lc_gt, lc_eq, Int.toNat_natCast, Int.reduceToNat, Nat.reduceAdd, Nat.reduceEqDiff, Int.reduceLT, Int.reduceEq, Int.reduceNeg, Int.reduceAdd, Int.reduceMul, Nat.reduceMul, ms_n, ms_i, ms_l, ms_p, PX]
        exact h0 σ' k x f u2 u3 (Or.inr ⟨3, e, s1, hi, hk, (Or.inr (Or.inr (Or.inl ⟨rfl, hB⟩)))⟩)
    · show At (d + 40) 40 2 [some (.inr (.inr 19))] [.inl 4] σ K
      refine At.blk rfl rfl rfl fun sx => ?_
      simp (decide := true) only [RR, ms_app, toList_some, toList_none, if_true, if_false, true_and, and_true, cond_true, sm0, sm1, sm1l, sm2, lc_lt, lc_gt, lc_eq, Int.toNat_natCast, Int.reduceToNat, Nat.reduceAdd, Nat.reduceEqDiff, Int.reduceLT, Int.reduceEq, Int.reduceNeg, Int.reduceAdd, Int.reduceMul, Nat.reduceMul, ms_n, ms_i, ms_l, ms_p, PX]
      refine At.blk rfl rfl rfl fun sx => ?_
      simp (decide := true) only [RR, ms_app, toList_some, toList_none, if_true, if_false, true_and, and_true, cond_true, sm0, sm1, sm1l, sm2, lc_lt, lc_gt, lc_eq, Int.toNat_natCast, Int.reduceToNat, Nat.reduceAdd, Nat.reduceEqDiff, Int.reduceLT, Int.reduceEq, Int.reduceNeg, Int.reduceAdd, Int.reduceMul, Nat.reduceMul, ms_n, ms_i, ms_l, ms_p, PX]
      refine cal_of rfl (x_deaf d σ _ s0 e s1 hF hT hX q1 q3 hlt heN hk hD (fun σ' s' g' f x hs u2 u3 dd hA => ?_) (fun σ' k x f u2 u3 hB => ?_))
      · simp (decide := true) only [RR, ms_app, toList_some, toList_none, if_true, if_false, true_and, and_true, cond_true, sm0, sm1, sm1l, sm2, lc_lt, lc_gt, lc_eq, Int.toNat_natCast, Int.reduceToNat, Nat.reduceAdd, Nat.reduceEqDiff, Int.reduceLT, Int.reduceEq, Int.reduceNeg, Int.reduceAdd, Int.reduceMul, Nat.reduceMul, ms_n, ms_i, ms_l, ms_p, PX]
        exact h1 σ' s' g' f x (by omega) u2 u3 dd ⟨4, e, s1, hi, hk, hs, (Or.inr (Or.inr (Or.inr (Or.inl ⟨rfl, hA⟩))))⟩
      · simp (decide := true) only [RR, ms_app, toList_some, toList_none, if_true, if_false, true_and, and_true, cond_true, sm0, sm1, sm1l, sm2, lc_lt, lc_gt, lc_eq, Int.toNat_natCast, Int.reduceToNat, Nat.reduceAdd, Nat.reduceEqDiff, Int.reduceLT, Int.reduceEq, Int.reduceNeg, Int.reduceAdd, Int.reduceMul, Nat.reduceMul, ms_n, ms_i, ms_l, ms_p, PX]
        exact h0 σ' k x f u2 u3 (Or.inr ⟨4, e, s1, hi, hk, (Or.inr (Or.inr (Or.inr (Or.inl ⟨rfl, hB⟩))))⟩)
    · show At (d + 40) 40 2 [some (.inr (.inr 19))] [.inl 5] σ K
      refine At.blk rfl rfl rfl fun sx => ?_
      simp (decide := true) only [RR, ms_app, toList_some, toList_none, if_true, if_false, true_and, and_true, cond_true, sm0, sm1, sm1l, sm2, lc_lt, lc_gt, lc_eq, Int.toNat_natCast, Int.reduceToNat, Nat.reduceAdd, Nat.reduceEqDiff, Int.reduceLT, Int.reduceEq, Int.reduceNeg, Int.reduceAdd, Int.reduceMul, Nat.reduceMul, ms_n, ms_i, ms_l, ms_p, PX]
      refine At.blk rfl rfl rfl fun sx => ?_
      simp (decide := true) only [RR, ms_app, toList_some, toList_none, if_true, if_false, true_and, and_true, cond_true, sm0, sm1, sm1l, sm2, lc_lt, lc_gt, lc_eq, Int.toNat_natCast, Int.reduceToNat, Nat.reduceAdd, Nat.reduceEqDiff, Int.reduceLT, Int.reduceEq, Int.reduceNeg, Int.reduceAdd, Int.reduceMul, Nat.reduceMul, ms_n, ms_i, ms_l, ms_p, PX]
      refine cal_of rfl ((x_rule (r := 0) (tk := 0) (K := K) (by decide) (Or.inl ⟨rfl, rfl⟩) hF hT hX q1 q3 hlt heN hk hD (fun σ' s' g' f x hs u2 u3 dd hA => h1 σ' s' g' f x (by omega) u2 u3 dd ⟨5, e, s1, hi, hk, hs, (Or.inr (Or.inr (Or.inr (Or.inr (Or.inl ⟨rfl, hA⟩)))))⟩) (fun σ' k x f u2 u3 hB => h0 σ' k x f u2 u3 (Or.inr ⟨5, e, s1, hi, hk, (Or.inr (Or.inr (Or.inr (Or.inr (Or.inl ⟨rfl, hB⟩)))))⟩))).mono ?_)
      rintro v τ (⟨rfl, h⟩ | ⟨rfl, h⟩)
      · simp (decide := true) only [RR, ms_app, toList_some, toList_none, if_true, if_false, true_and, and_true, cond_true, sm0, sm1, sm1l, sm2, lc_lt, lc_gt, lc_eq, Int.toNat_natCast, Int.reduceToNat, Nat.reduceAdd, Nat.reduceEqDiff, Int.reduceLT, Int.reduceEq, Int.reduceNeg, Int.reduceAdd, Int.reduceMul, Nat.reduceMul, ms_n, ms_i, ms_l, ms_p, PX]
        refine At.blk rfl rfl rfl fun sx => ?_
        simp (decide := true) only [RR, ms_app, toList_some, toList_none, if_true, if_false, true_and, and_true, cond_true, sm0, sm1, sm1l, sm2, lc_lt, lc_gt, lc_eq, Int.toNat_natCast, Int.reduceToNat, Nat.reduceAdd, Nat.reduceEqDiff, Int.reduceLT, Int.reduceEq, Int.reduceNeg, Int.reduceAdd, Int.reduceMul, Nat.reduceMul, ms_n, ms_i, ms_l, ms_p, PX]
        refine At.blk rfl rfl rfl fun sx => ?_
        simp (decide := true) only [RR, ms_app, toList_some, toList_none, if_true, if_false, true_and, and_true, cond_true, sm0, sm1, sm1l, sm2, lc_lt, lc_gt, lc_eq, Int.toNat_natCast, Int.reduceToNat, Nat.reduceAdd, Nat.reduceEqDiff, Int.reduceLT, Int.reduceEq, Int.reduceNeg, Int.reduceAdd, Int.reduceMul, Nat.reduceMul, ms_n, ms_i, ms_l, ms_p, PX]
        exact h
      · simp (decide := true) only [RR, ms_app, toList_some, toList_none, if_true, if_false, true_and, and_true, cond_true, sm0, sm1, sm1l, sm2, lc_lt, lc_gt, lc_eq, Int.toNat_natCast, Int.reduceToNat, Nat.reduceAdd, Nat.reduceEqDiff, Int.reduceLT, Int.reduceEq, Int.reduceNeg, Int.reduceAdd, Int.reduceMul, Nat.reduceMul, ms_n, ms_i, ms_l, ms_p, PX]
        refine cal_of rfl (h.mono ?_)
        rintro v τ2 (⟨rfl, h⟩ | ⟨rfl, h⟩)
        · simp (decide := true) only [RR, ms_app, toList_some, toList_none, if_true, if_false, true_and, and_true, cond_true, sm0, sm1, sm1l, sm2, lc_lt, lc_gt, lc_eq, Int.toNat_natCast, Int.reduceToNat, Nat.reduceAdd, Nat.reduceEqDiff, Int.reduceLT, Int.reduceEq, Int.reduceNeg, Int.reduceAdd, Int.reduceMul, Nat.reduceMul, ms_n, ms_i, ms_l, ms_p, PX]
          refine At.blk rfl rfl rfl fun sx => ?_
          simp (decide := true) only [RR, ms_app, toList_some, toList_none, if_true, if_false, true_and, and_true, cond_true, sm0, sm1, sm1l, sm2, lc_lt, lc_gt, lc_eq, Int.toNat_natCast, Int.reduceToNat, Nat.reduceAdd, Nat.reduceEqDiff, Int.reduceLT, Int.reduceEq, Int.reduceNeg, Int.reduceAdd, Int.reduceMul, Nat.reduceMul, ms_n, ms_i, ms_l, ms_p, PX]
          refine At.blk rfl rfl rfl fun sx => ?_
          simp (decide := true) only [RR, ms_app, toList_some, toList_none, if_true, if_false, true_and, and_true, cond_true, sm0, sm1, sm1l, sm2, lc_lt, lc_gt, lc_eq, Int.toNat_natCast, Int.reduceToNat, Nat.reduceAdd, Nat.reduceEqDiff, Int.reduceLT, Int.reduceEq, Int.reduceNeg, Int.reduceAdd, Int.reduceMul, Nat.reduceMul, ms_n, ms_i, ms_l, ms_p, PX]
          exact h
        · simp (decide := true) only [RR, ms_app, toList_some, toList_none, if_true, if_false, true_and, and_true, cond_true, sm0, sm1, sm1l, sm2, lc_lt, lc_gt, lc_eq, Int.toNat_natCast, Int.reduceToNat, Nat.reduceAdd, Nat.reduceEqDiff, Int.reduceLT, Int.reduceEq, Int.reduceNeg, Int.reduceAdd, Int.reduceMul, Nat.reduceMul, ms_n, ms_i, ms_l, ms_p, PX]
          refine cal_of rfl (h.mono ?_)
          rintro v τ3 ⟨rfl, h⟩
          simp (decide := true) only [RR, ms_app, toList_some, toList_none, if_true, if_false, true_and, and_true, cond_true, sm0, sm1, sm1l, sm2, lc_lt, lc_gt, lc_eq, Int.toNat_natCast, Int.reduceToNat, Nat.reduceAdd, Nat.reduceEqDiff, Int.reduceLT, Int.reduceEq, Int.reduceNeg, Int.reduceAdd, Int.reduceMul, Nat.reduceMul, ms_n, ms_i, ms_l, ms_p, PX]
          refine At.blk rfl rfl rfl fun sx => ?_
          simp (decide := true) only [RR, ms_app, toList_some, toList_none, if_true, if_false, true_and, and_true, cond_true, sm0, sm1, sm1l, sm2, lc_lt, lc_gt, lc_eq, Int.toNat_natCast, Int.reduceToNat, Nat.reduceAdd, Nat.reduceEqDiff, Int.reduceLT, Int.reduceEq, Int.reduceNeg, Int.reduceAdd, Int.reduceMul, Nat.reduceMul, ms_n, ms_i, ms_l, ms_p, PX]
          exact h
    · show At (d + 40) 40 2 [some (.inr (.inr 19))] [.inl 6] σ K
      refine At.blk rfl rfl rfl fun sx => ?_
      simp (decide := true) only [RR, ms_app, toList_some, toList_none, if_true, if_false, true_and, and_true, cond_true, sm0, sm1, sm1l, sm2, lc_lt, lc_gt, lc_eq, Int.toNat_natCast, Int.reduceToNat, Nat.reduceAdd, Nat.reduceEqDiff, Int.reduceLT, Int.reduceEq, Int.reduceNeg, Int.reduceAdd, Int.reduceMul, Nat.reduceMul, ms_n, ms_i, ms_l, ms_p, PX]
      refine At.blk rfl rfl rfl fun sx => ?_
      simp (decide := true) only [RR, ms_app, toList_some, toList_none, if_true, if_false, true_and, and_true, cond_true, sm0, sm1, sm1l, sm2, lc_lt, lc_gt, lc_eq, Int.toNat_natCast, Int.reduceToNat, Nat.reduceAdd, Nat.reduceEqDiff, Int.reduceLT, Int.reduceEq, Int.reduceNeg, Int.reduceAdd, Int.reduceMul, Nat.reduceMul, ms_n, ms_i, ms_l, ms_p, PX]
      refine cal_of rfl ((x_rule (r := 1) (tk := 0) (K := K) (by decide) (Or.inr (Or.inl ⟨rfl, rfl⟩)) hF hT hX q1 q3 hlt heN hk hD (fun σ' s' g' f x hs u2 u3 dd hA => h1 σ' s' g' f x (by omega) u2 u3 dd ⟨6, e, s1, hi, hk, hs, (Or.inr (Or.inr (Or.inr (Or.inr (Or.inr (Or.inl ⟨rfl, hA⟩))))))⟩) (fun σ' k x f u2 u3 hB => h0 σ' k x f u2 u3 (Or.inr ⟨6, e, s1, hi, hk, (Or.inr (Or.inr (Or.inr (Or.inr (Or.inr (Or.inl ⟨rfl, hB⟩))))))⟩))).mono ?_)
      rintro v τ (⟨rfl, h⟩ | ⟨rfl, h⟩)
      · simp (decide := true) only [RR, ms_app, toList_some, toList_none, if_true, if_false, true_and, and_true, cond_true, sm0, sm1, sm1l, sm2, lc_lt, lc_gt, lc_eq, Int.toNat_natCast, Int.reduceToNat, Nat.reduceAdd, Nat.reduceEqDiff, Int.reduceLT, Int.reduceEq, Int.reduceNeg, Int.reduceAdd, Int.reduceMul, Nat.reduceMul, ms_n, ms_i, ms_l, ms_p, PX]
        refine At.blk rfl rfl rfl fun sx => ?_
        simp (decide := true) only [RR, ms_app, toList_some, toList_none, if_true, if_false, true_and, and_true, cond_true, sm0, sm1, sm1l, sm2, lc_lt, lc_gt, lc_eq, Int.toNat_natCast, Int.reduceToNat, Nat.reduceAdd, Nat.reduceEqDiff, Int.reduceLT, Int.reduceEq, Int.reduceNeg, Int.reduceAdd, Int.reduceMul, Nat.reduceMul, ms_n, ms_i, ms_l, ms_p, PX]
        refine At.blk rfl rfl rfl fun sx => ?_
        simp (decide := true) only [RR, ms_app, toList_some, toList_none, if_true, if_false, true_and, and_true, cond_true, sm0, sm1, sm1l, sm2, lc_lt, lc_gt, lc_eq, Int.toNat_natCast, Int.reduceToNat, Nat.reduceAdd, Nat.reduceEqDiff, Int.reduceLT, Int.reduceEq, Int.reduceNeg, Int.reduceAdd, Int.reduceMul, Nat.reduceMul, ms_n, ms_i, ms_l, ms_p, PX]
        exact h
      · simp (decide := true) only [RR, ms_app, toList_some, toList_none, if_true, if_false, true_and, and_true, cond_true, sm0, sm1, sm1l, sm2, lc_lt, lc_gt, lc_eq, Int.toNat_natCast, Int.reduceToNat, Nat.reduceAdd, Nat.reduceEqDiff, Int.reduceLT, Int.reduceEq, Int.reduceNeg, Int.reduceAdd, Int.reduceMul, Nat.reduceMul, ms_n, ms_i, ms_l, ms_p, PX]
        refine cal_of rfl (h.mono ?_)
        rintro v τ2 (⟨rfl, h⟩ | ⟨rfl, h⟩)
        · simp (decide := true) only [RR, ms_app, toList_some, toList_none, if_true, if_false, true_and, and_true, cond_true, sm0, sm1, sm1l, sm2, lc_lt, lc_gt, lc_eq, Int.toNat_natCast, Int.reduceToNat, Nat.reduceAdd, Nat.reduceEqDiff, Int.reduceLT, Int.reduceEq, Int.reduceNeg, Int.reduceAdd, Int.reduceMul, Nat.reduceMul, ms_n, ms_i, ms_l, ms_p, PX]
          refine At.blk rfl rfl rfl fun sx => ?_
          simp (decide := true) only [RR, ms_app, toList_some, toList_none, if_true, if_false, true_and, and_true, cond_true, sm0, sm1, sm1l, sm2, lc_lt, lc_gt, lc_eq, Int.toNat_natCast, Int.reduceToNat, Nat.reduceAdd, Nat.reduceEqDiff, Int.reduceLT, Int.reduceEq, Int.reduceNeg, Int.reduceAdd, Int.reduceMul, Nat.reduceMul, ms_n, ms_i, ms_l, ms_p, PX]
          refine At.blk rfl rfl rfl fun sx => ?_
          simp (decide := true) only [RR, ms_app, toList_some, toList_none, if_true, if_false, true_and, and_true, cond_true, sm0, sm1, sm1l, sm2, lc_lt, lc_gt, lc_eq, Int.toNat_natCast, Int.reduceToNat, Nat.reduceAdd, Nat.reduceEqDiff, Int.reduceLT, Int.reduceEq, Int.reduceNeg, Int.reduceAdd, Int.reduceMul, Nat.reduceMul, ms_n, ms_i, ms_l, ms_p, PX]
          exact h
        · simp (decide := true) only [RR, ms_app, toList_some, toList_none, if_true, if_false, true_and, and_true, cond_true, sm0, sm1, sm1l, sm2, lc_lt, lc_gt, lc_eq, Int.toNat_natCast, Int.reduceToNat, Nat.reduceAdd, Nat.reduceEqDiff, Int.reduceLT, Int.reduceEq, Int.reduceNeg, Int.reduceAdd, Int.reduceMul, Nat.reduceMul, ms_n, ms_i, ms_l, ms_p, PX]
          refine cal_of rfl (h.mono ?_)
          rintro v τ3 ⟨rfl, h⟩
          simp (decide := true) only [RR, ms_app, toList_some, toList_none, if_true, if_false, true_and, and_true, cond_true, sm0, sm1, sm1l, sm2, lc_lt, lc_gt, lc_eq, Int.toNat_natCast, Int.reduceToNat, Nat.reduceAdd, Nat.reduceEqDiff, Int.reduceLT, Int.reduceEq, Int.reduceNeg, Int.reduceAdd, Int.reduceMul, Nat.reduceMul, ms_n, ms_i, ms_l, ms_p, PX]
          refine At.blk rfl rfl rfl fun sx => ?_
          simp (decide := true) only [RR, ms_app, toList_some, toList_none, if_true, if_false, true_and, and_true, cond_true, sm0, sm1, sm1l, sm2, lc_lt, lc_gt, lc_eq, Int.toNat_natCast, Int.reduceToNat, Nat.reduceAdd, Nat.reduceEqDiff, Int.reduceLT, Int.reduceEq, Int.reduceNeg, Int.reduceAdd, Int.reduceMul, Nat.reduceMul, ms_n, ms_i, ms_l, ms_p, PX]
          exact h
    · show At (d + 40) 40 2 [some (.inr (.inr 19))] [.inl 7] σ K
      refine At.blk rfl rfl rfl fun sx => ?_
      simp (decide := true) only [RR, ms_app, toList_some, toList_none, if_true, if_false, true_and, and_true, cond_true, sm0, sm1, sm1l, sm2, lc_lt, lc_gt, lc_eq, Int.toNat_natCast, Int.reduceToNat, Nat.reduceAdd, Nat.reduceEqDiff, Int.reduceLT, Int.reduceEq, Int.reduceNeg, Int.reduceAdd, Int.reduceMul, Nat.reduceMul, ms_n, ms_i, ms_l, ms_p, PX]
      refine At.blk rfl rfl rfl fun sx => ?_
      simp (decide := true) only [RR, ms_app, toList_some, toList_none, if_true, if_false, true_and, and_true, cond_true, sm0, sm1, sm1l, sm2, lc_lt, lc_gt, lc_eq, Int.toNat_natCast, Int.reduceToNat, Nat.reduceAdd, Nat.reduceEqDiff, Int.reduceLT, Int.reduceEq, Int.reduceNeg, Int.reduceAdd, Int.reduceMul, Nat.reduceMul, ms_n, ms_i, ms_l, ms_p, PX]
      refine cal_of rfl ((x_rule (r := 2) (tk := 1) (K := K) (by decide) (Or.inr (Or.inr (Or.inl ⟨rfl, rfl⟩))) hF hT hX q1 q3 hlt heN hk hD (fun σ' s' g' f x hs u2 u3 dd hA => h1 σ' s' g' f x (by omega) u2 u3 dd ⟨7, e, s1, hi, hk, hs, (Or.inr (Or.inr (Or.inr (Or.inr (Or.inr (Or.inr (Or.inl ⟨rfl, hA⟩)))))))⟩) (fun σ' k x f u2 u3 hB => h0 σ' k x f u2 u3 (Or.inr ⟨7, e, s1, hi, hk, (Or.inr (Or.inr (Or.inr (Or.inr (Or.inr (Or.inr (Or.inl ⟨rfl, hB⟩)))))))⟩))).mono ?_)
      rintro v τ (⟨rfl, h⟩ | ⟨rfl, h⟩)
      · simp (decide := true) only [RR, ms_app, toList_some, toList_none, if_true, if_false, true_and, and_true, cond_true, sm0, sm1, sm1l, sm2, lc_lt, lc_gt, lc_eq, Int.toNat_natCast, Int.reduceToNat, Nat.reduceAdd, Nat.reduceEqDiff, Int.reduceLT, Int.reduceEq, Int.reduceNeg, Int.reduceAdd, Int.reduceMul, Nat.reduceMul, ms_n, ms_i, ms_l, ms_p, PX]
        refine At.blk rfl rfl rfl fun sx => ?_
        simp (decide := true) only [RR, ms_app, toList_some, toList_none, if_true, if_false, true_and, and_true, cond_true, sm0, sm1, sm1l, sm2, lc_lt, lc_gt, lc_eq, Int.toNat_natCast, Int.reduceToNat, Nat.reduceAdd, Nat.reduceEqDiff, Int.reduceLT, Int.reduceEq, Int.reduceNeg, Int.reduceAdd, Int.reduceMul, Nat.reduceMul, ms_n, ms_i, ms_l, ms_p, PX]
        refine At.blk rfl rfl rfl fun sx => ?_
        simp (decide := true) only [RR, ms_app, toList_some, toList_none, if_true, if_false, true_and, and_true, cond_true, sm0, sm1, sm1l, sm2, lc_lt, lc_gt, lc_eq, Int.toNat_natCast, Int.reduceToNat, Nat.reduceAdd, Nat.reduceEqDiff, Int.reduceLT, Int.reduceEq, Int.reduceNeg, Int.reduceAdd, Int.reduceMul, Nat.reduceMul, ms_n, ms_i, ms_l, ms_p, PX]
        exact h
      · simp (decide := true) only [RR, ms_app, toList_some, toList_none, if_true, if_false, true_and, and_true, cond_true, sm0, sm1, sm1l, sm2, lc_lt, lc_gt, lc_eq, Int.toNat_natCast, Int.reduceToNat, Nat.reduceAdd, Nat.reduceEqDiff, Int.reduceLT, Int.reduceEq, Int.reduceNeg, Int.reduceAdd, Int.reduceMul, Nat.reduceMul, ms_n, ms_i, ms_l, ms_p, PX]
        refine cal_of rfl (h.mono ?_)
        rintro v τ2 (⟨rfl, h⟩ | ⟨rfl, h⟩)
        · simp (decide := true) only [RR, ms_app, toList_some, toList_none, if_true, if_false, true_and, and_true, cond_true, sm0, sm1, sm1l, sm2, lc_lt, lc_gt, lc_eq, Int.toNat_natCast, Int.reduceToNat, Nat.reduceAdd, Nat.reduceEqDiff, Int.reduceLT, Int.reduceEq, Int.reduceNeg, Int.reduceAdd, Int.reduceMul, Nat.reduceMul, ms_n, ms_i, ms_l, ms_p, PX]
          refine At.blk rfl rfl rfl fun sx => ?_
          simp (decide := true) only [RR, ms_app, toList_some, toList_none, if_true, if_false, true_and, and_true, cond_true, sm0, sm1, sm1l, sm2, lc_lt, lc_gt, lc_eq, Int.toNat_natCast, Int.reduceToNat, Nat.reduceAdd, Nat.reduceEqDiff, Int.reduceLT, Int.reduceEq, Int.reduceNeg, Int.reduceAdd, Int.reduceMul, Nat.reduceMul, ms_n, ms_i, ms_l, ms_p, PX]
          refine At.blk rfl rfl rfl fun sx => ?_
          simp (decide := true) only [RR, ms_app, toList_some, toList_none, if_true, if_false, true_and, and_true, cond_true, sm0, sm1, sm1l, sm2, lc_lt, lc_gt, lc_eq, Int.toNat_natCast, Int.reduceToNat, Nat.reduceAdd, Nat.reduceEqDiff, Int.reduceLT, Int.reduceEq, Int.reduceNeg, Int.reduceAdd, Int.reduceMul, Nat.reduceMul, ms_n, ms_i, ms_l, ms_p, PX]
          exact h
        · simp (decide := true) only [RR, ms_app, toList_some, toList_none, if_true, if_false, true_and, and_true, cond_true, sm0, sm1, sm1l, sm2, lc_lt, lc_gt, lc_eq, Int.toNat_natCast, Int.reduceToNat, Nat.reduceAdd, Nat.reduceEqDiff, Int.reduceLT, Int.reduceEq, Int.reduceNeg, Int.reduceAdd, Int.reduceMul, Nat.reduceMul, ms_n, ms_i, ms_l, ms_p, PX]
          refine cal_of rfl (h.mono ?_)
          rintro v τ3 ⟨rfl, h⟩
          simp (decide := true) only [RR, ms_app, toList_some, toList_none, if_true, if_false, true_and, and_true, cond_true, sm0, sm1, sm1l, sm2, lc_lt, lc_gt, lc_eq, Int.toNat_natCast, Int.reduceToNat, Nat.reduceAdd, Nat.reduceEqDiff, Int.reduceLT, Int.reduceEq, Int.reduceNeg, Int.reduceAdd, Int.reduceMul, Nat.reduceMul, ms_n, ms_i, ms_l, ms_p, PX]
          refine At.blk rfl rfl rfl fun sx => ?_
          simp (decide := true) only [RR, ms_app, toList_some, toList_none, if_true, if_false, true_and, and_true, cond_true, sm0, sm1, sm1l, sm2, lc_lt, lc_gt, lc_eq, Int.toNat_natCast, Int.reduceToNat, Nat.reduceAdd, Nat.reduceEqDiff, Int.reduceLT, Int.reduceEq, Int.reduceNeg, Int.reduceAdd, Int.reduceMul, Nat.reduceMul, ms_n, ms_i, ms_l, ms_p, PX]
          exact h
    · show At (d + 40) 40 2 [some (.inr (.inr 19))] [.inl 8] σ K
      refine At.blk rfl rfl rfl fun sx => ?_
      simp (decide := true) only [RR, ms_app, toList_some, toList_none, if_true, if_false, true_and, and_true, cond_true, sm0, sm1, sm1l, sm2, lc_lt, lc_gt, lc_eq, Int.toNat_natCast, Int.reduceToNat, Nat.reduceAdd, Nat.reduceEqDiff, Int.reduceLT, Int.reduceEq, Int.reduceNeg, Int.reduceAdd, Int.reduceMul, Nat.reduceMul, ms_n, ms_i, ms_l, ms_p, PX]
      refine At.blk rfl rfl rfl fun sx => ?_
      simp (decide := true) only [RR, ms_app, toList_some, toList_none, if_true, if_false, true_and, and_true, cond_true, sm0, sm1, sm1l, sm2, lc_lt, lc_gt, lc_eq, Int.toNat_natCast, Int.reduceToNat, Nat.reduceAdd, Nat.reduceEqDiff, Int.reduceLT, Int.reduceEq, Int.reduceNeg, Int.reduceAdd, Int.reduceMul, Nat.reduceMul, ms_n, ms_i, ms_l, ms_p, PX]
      refine cal_of rfl (x_gale d σ _ s0 e s1 hF hT hX q1 q3 hlt heN hk hD (fun σ' s' g' f x hs u2 u3 dd hA => ?_) (fun σ' k x f u2 u3 hB => ?_))
      · simp (decide := true) only [RR, ms_app, toList_some, toList_none, if_true, if_false, true_and, and_true, cond_true, sm0, sm1, sm1l, sm2, lc_lt, lc_gt, lc_eq, Int.toNat_natCast, Int.reduceToNat, Nat.reduceAdd, Nat.reduceEqDiff, Int.reduceLT, Int.reduceEq, Int.reduceNeg, Int.reduceAdd, Int.reduceMul, Nat.reduceMul, ms_n, ms_i, ms_l, ms_p, PX]
        exact h1 σ' s' g' f x (by omega) u2 u3 dd ⟨8, e, s1, hi, hk, hs, (Or.inr (Or.inr (Or.inr (Or.inr (Or.inr (Or.inr (Or.inr (Or.inl ⟨rfl, hA⟩))))))))⟩
      · simp (decide := true) only [RR, ms_app, toList_some, toList_none, if_true, if_false, true_and, and_true, cond_true, sm0, sm1, sm1l, sm2, lc_lt, lc_gt, lc_eq, Int.toNat_natCast, Int.reduceToNat, Nat.reduceAdd, Nat.reduceEqDiff, Int.reduceLT, Int.reduceEq, Int.reduceNeg, Int.reduceAdd, Int.reduceMul, Nat.reduceMul, ms_n, ms_i, ms_l, ms_p, PX]
        exact h0 σ' k x f u2 u3 (Or.inr ⟨8, e, s1, hi, hk, (Or.inr (Or.inr (Or.inr (Or.inr (Or.inr (Or.inr (Or.inr (Or.inl ⟨rfl, hB⟩))))))))⟩)
    · show At (d + 40) 40 2 [some (.inr (.inr 19))] [.inl 9] σ K
      refine At.blk rfl rfl rfl fun sx => ?_
      simp (decide := true) only [RR, ms_app, toList_some, toList_none, if_true, if_false, true_and, and_true, cond_true, sm0, sm1, sm1l, sm2, lc_lt, lc_gt, lc_eq, Int.toNat_natCast, Int.reduceToNat, Nat.reduceAdd, Nat.reduceEqDiff, Int.reduceLT, Int.reduceEq, Int.reduceNeg, Int.reduceAdd, Int.reduceMul, Nat.reduceMul, ms_n, ms_i, ms_l, ms_p, PX]
      refine At.blk rfl rfl rfl fun sx => ?_
      simp (decide := true) only [RR, ms_app, toList_some, toList_none, if_true, if_false, true_and, and_true, cond_true, sm0, sm1, sm1l, sm2, lc_lt, lc_gt, lc_eq, Int.toNat_natCast, Int.reduceToNat, Nat.reduceAdd, Nat.reduceEqDiff, Int.reduceLT, Int.reduceEq, Int.reduceNeg, Int.reduceAdd, Int.reduceMul, Nat.reduceMul, ms_n, ms_i, ms_l, ms_p, PX]
      refine cal_of rfl (x_slip d σ _ s0 e s1 hF hT hX q1 q3 hlt heN hk hD (fun σ' s' g' f x hs u2 u3 dd hA => ?_) (fun σ' k x f u2 u3 hB => ?_))
      · simp (decide := true) only [RR, ms_app, toList_some, toList_none, if_true, if_false, true_and, and_true, cond_true, sm0, sm1, sm1l, sm2, lc_lt, lc_gt, lc_eq, Int.toNat_natCast, Int.reduceToNat, Nat.reduceAdd, Nat.reduceEqDiff, Int.reduceLT, Int.reduceEq, Int.reduceNeg, Int.reduceAdd, Int.reduceMul, Nat.reduceMul, ms_n, ms_i, ms_l, ms_p, PX]
        exact h1 σ' s' g' f x (by omega) u2 u3 dd ⟨9, e, s1, hi, hk, hs, (Or.inr (Or.inr (Or.inr (Or.inr (Or.inr (Or.inr (Or.inr (Or.inr ⟨rfl, hA⟩))))))))⟩
      · simp (decide := true) only [RR, ms_app, toList_some, toList_none, if_true, if_false, true_and, and_true, cond_true, sm0, sm1, sm1l, sm2, lc_lt, lc_gt, lc_eq, Int.toNat_natCast, Int.reduceToNat, Nat.reduceAdd, Nat.reduceEqDiff, Int.reduceLT, Int.reduceEq, Int.reduceNeg, Int.reduceAdd, Int.reduceMul, Nat.reduceMul, ms_n, ms_i, ms_l, ms_p, PX]
        exact h0 σ' k x f u2 u3 (Or.inr ⟨9, e, s1, hi, hk, (Or.inr (Or.inr (Or.inr (Or.inr (Or.inr (Or.inr (Or.inr (Or.inr ⟨rfl, hB⟩))))))))⟩)
  refine At.blk rfl rfl rfl fun sx => ?_
  simp (decide := true) only [RR, ms_app, toList_some, toList_none, if_true, if_false, true_and, and_true, cond_true, sm0, sm1, sm1l, sm2, lc_lt, lc_gt, lc_eq, Int.toNat_natCast, Int.reduceToNat, Nat.reduceAdd, Nat.reduceEqDiff, Int.reduceLT, Int.reduceEq, Int.reduceNeg, Int.reduceAdd, Int.reduceMul, Nat.reduceMul, ms_n, ms_i, ms_l, ms_p, PX, fxX hF]
  rcases hX.wd with ⟨e, q1, q3, wy, wn⟩ | ⟨q1, wn⟩
  · rw [if_pos q1]
    by_cases h : ∃ w, cyW w ∧ σ 20 4 = (w : Int)
    · obtain ⟨w, hw, ew⟩ := h
      rw [ew]
      exact hit w e hw (wy _ (by unfold cyW at hw; omega) ew) q1 q3
    · exact miss _ (fun w hw e => h ⟨w, hw, e⟩) (fun w hw e2 h2 => h ⟨w, hw, wn _ (by unfold cyW at hw; omega) e2 h2⟩)
  · rw [if_neg q1]
    refine At.blk rfl rfl rfl fun sx => ?_
    simp (decide := true) only [RR, ms_app, toList_some, toList_none, if_true, if_false, true_and, and_true, cond_true, sm0, sm1, sm1l, sm2, lc_lt, lc_gt, lc_eq, Int.toNat_natCast, Int.reduceToNat, Nat.reduceAdd, Nat.reduceEqDiff, Int.reduceLT, Int.reduceEq, Int.reduceNeg, Int.reduceAdd, Int.reduceMul, Nat.reduceMul, ms_n, ms_i, ms_l, ms_p, PX]
    exact miss (-1) (fun w hw => by omega) (fun w hw e => wn _ e)
end
