/-! a city's statements: the class reads them -/
def cyL : List Nat := [12, 13, 14, 16, 17, 18]
def cyT : List (Nat × Nat) := [(20, 1), (20, 2), (20, 3), (20, 4), (20, 5), (19, 2), (19, 3), (19, 5), (15, 3), (11, 4), (11, 5), (11, 6), (11, 7), (11, 8), (11, 9)]
/-- the draft's rows are alike -/
def cyE (σ τ : mM) : Prop := ∀ q, 11 ≤ q → q ≤ 18 → σ q = τ q
theorem cyE.tk {σ τ : mM} (f : Fr [] tkL τ σ) : cyE σ τ := by
  intro q h1 h2
  rcases (show q = 11 ∨ q = 12 ∨ q = 13 ∨ q = 14 ∨ q = 15 ∨ q = 16 ∨ q = 17 ∨ q = 18 by omega) with rfl | rfl | rfl | rfl | rfl | rfl | rfl | rfl
  all_goals exact f.row _ rfl
theorem cyE.refl {σ : mM} : cyE σ σ := fun _ _ _ => rfl
theorem cyE.trans {σ τ υ : mM} (h : cyE σ τ) (h2 : cyE τ υ) : cyE σ υ := fun q a b => (h q a b).trans (h2 q a b)
theorem cyE.symm {σ τ : mM} (h : cyE σ τ) : cyE τ σ := fun q a b => (h q a b).symm
theorem cyE.set {σ τ : mM} {q k : Nat} {x : Int} (h : cyE σ τ) : cyE (mj_set σ q k x) (mj_set τ q k x) := by
  intro p h1 h2
  funext j
  rw [ms_app, ms_app, h p h1 h2]
/-- the draft of the class is in its bounds -/
def cyD (σ : mM) (s : Nat) : Prop := (0 ≤ σ 11 4 ∧ σ 11 4 ≤ 7) ∧ (0 ≤ σ 11 5 ∧ σ 11 5 ≤ 12) ∧ (0 ≤ σ 11 6 ∧ σ 11 6 < 128) ∧ (0 ≤ σ 11 7 ∧ σ 11 7 < 128) ∧ (∀ p, p < 7 → 0 ≤ σ 14 p ∧ σ 14 p < 128) ∧ (0 ≤ σ 15 3 ∧ σ 15 3 ≤ (s : Int))
theorem cyD.cg {σ τ : mM} {s s' : Nat} (h : cyD σ s) (e : cyE τ σ) (hs : s ≤ s') : cyD τ s' := by
  unfold cyD at *
  rw [e 11 (by decide) (by decide), e 14 (by decide) (by decide), e 15 (by decide) (by decide)]
  obtain ⟨h1, h2, h3, h4, h5, h6⟩ := h
  exact ⟨h1, h2, h3, h4, h5, by omega⟩
/-- a statement's method of the class, from its first word (s0 to e) on -/
def cyX (y : Nat) (as : List mV) (N : Nat) (t : Nat → Int) (A : Nat → Bool → mM → Nat → Bool → mM → Prop) (B : Nat → Nat → Bool → mM → Int → Int → Prop) : Prop :=
  ∀ (d : Nat) (σ : mM) (K : Option mV → mM → Prop) (s0 e s1 : Nat), Fix σ → TxX σ N t → TX σ N t s0 false → σ 20 1 = 1 → σ 20 3 = (e : Int) → s0 < e → e ≤ N → Skp N t e s1 → cyD σ s0 →
    (∀ σ' s' g', Fr cyL cyT σ σ' → TX σ' N t s' g' → s1 ≤ s' → σ' 19 2 = σ 19 2 → σ' 19 3 = σ 19 3 → cyD σ' s' → A s1 (decide (s1 = e)) σ s' g' σ' → K (some (.inl 1)) σ') →
    (∀ σ' k x, Fr cyL cyT σ σ' → σ' 19 2 = k → σ' 19 3 = x → B s0 s1 (decide (s1 = e)) σ k x → K (some (.inl 0)) σ') → Mt (d + 40) y (.inr (.inr 19) :: as) σ K
/-- a part is told -/
def cyPa (N : Nat) (t : Nat → Int) (s : Nat) (g : Bool) (σ : mM) (s' : Nat) (g' : Bool) (τ : mM) : Prop := ∃ n e s2 e2 s3 e3 : Nat, n < 7 ∧ σ 11 4 = (n : Int) ∧ IsNa N t s g e ∧ (∀ p, p < n → σ 12 p ≠ enc5 (nmL t s (e - s))) ∧ Skp N t e s2 ∧ IsWd N t s2 (decide (s2 = e)) e2 1 ∧ Skp N t e2 s3 ∧ IsNm N t s3 (decide (s3 = e2)) e3 ∧ e3 - s3 ≤ 4 ∧ (0 ≤ numV t s3 (e3 - s3) ∧ numV t s3 (e3 - s3) ≤ 20) ∧ Skp N t e3 s' ∧ g' = decide (s' = e3) ∧ cyE τ (mj_set (mj_set (mj_set σ 12 n (enc5 (nmL t s (e - s)))) 13 n (numV t s3 (e3 - s3))) 11 4 ((n + 1 : Nat) : Int))
def cyPn (N : Nat) (t : Nat → Int) (s0 s : Nat) (g : Bool) (σ : mM) (k x : Int) : Prop := ∃ n : Nat, n ≤ 7 ∧ σ 11 4 = (n : Int) ∧ ((n = 7 ∧ k = 5 ∧ x = (s0 : Int)) ∨ (n < 7 ∧ (NaF N t s g k x ∨ ∃ e, IsNa N t s g e ∧ ((k = 3 ∧ x = (s : Int) ∧ ∃ p, p < n ∧ σ 12 p = enc5 (nmL t s (e - s))) ∨ ((∀ p, p < n → σ 12 p ≠ enc5 (nmL t s (e - s))) ∧ ∃ s2, Skp N t e s2 ∧ ((k = 1 ∧ x = (s2 : Int) ∧ ∀ e2, ¬IsWd N t s2 (decide (s2 = e)) e2 1) ∨ ∃ e2 s3, IsWd N t s2 (decide (s2 = e)) e2 1 ∧ Skp N t e2 s3 ∧ NmF N t s3 (decide (s3 = e2)) 0 20 k x))))))
section
variable {N : Nat} {t : Nat → Int}
theorem IsNa.lt {s e : Nat} {g : Bool} (h : IsNa N t s g e) : s < e := by
  obtain ⟨-, b, c, r, -⟩ := h
  rcases Nat.lt_or_ge s e with h | h
  · exact h
  · have := r.1
    obtain rfl : s = e := by omega
    exact absurd c (r.2.2.2 b)
theorem x_addPart {d n : Nat} {σ : mM} {K : Option mV → mM → Prop} {v a : Int} (hF : Fix σ) (hn : σ 11 4 = (n : Int)) (n7 : n < 7) (hK : K none (mj_set (mj_set (mj_set σ 12 n v) 13 n a) 11 4 ((n + 1 : Nat) : Int))) : Mt (d + 1) 5 [.inr (.inr 11), .inl v, .inl a] σ K := by
  refine Mt.go (lv := [some (.inr (.inr 11)), some (.inl v), some (.inl a)]) rfl rfl rfl ?_
  have w1 : Unit → w32 ((n : Int) + 1) = ((n + 1 : Nat) : Int) := fun _ => by rw [w32_small (by omega) (by omega)]; omega
  refine At.blk rfl rfl rfl fun sx => ?_
  simp (decide := true) only [RR, ms_app, toList_some, toList_none, if_true, if_false, true_and, and_true, cond_true, sm0, sm1, sm1l, sm2, lc_lt, lc_gt, lc_eq, Int.toNat_natCast, Int.reduceToNat, Nat.reduceAdd, Nat.reduceEqDiff, Int.reduceLT, Int.reduceEq, Int.reduceNeg, Int.reduceAdd, Int.reduceMul, Nat.reduceMul, ms_n, ms_i, ms_l, ms_p, PX, fxX hF, hn, w1 ()]
  rw [if_pos (by omega)]
  refine ⟨⟨by omega, by omega⟩, ⟨by omega, by omega⟩, ?_⟩
  refine At.blk rfl rfl rfl fun sx => ?_
  simp (decide := true) only [RR, ms_app, toList_some, toList_none, if_true, if_false, true_and, and_true, cond_true, sm0, sm1, sm1l, sm2, lc_lt, lc_gt, lc_eq, Int.toNat_natCast, Int.reduceToNat, Nat.reduceAdd, Nat.reduceEqDiff, Int.reduceLT, Int.reduceEq, Int.reduceNeg, Int.reduceAdd, Int.reduceMul, Nat.reduceMul, ms_n, ms_i, ms_l, ms_p, PX]
  exact hK
theorem x_partS : cyX 41 [] N t (cyPa N t) (cyPn N t) := by
  intro d σ K s0 e s1 hF hT hX q1 q3 hse he hk hD h1 h0
  obtain ⟨n, hn⟩ := Int.eq_ofNat_of_zero_le hD.1.1
  have n7 := hD.1.2
  rw [hn] at n7
  refine Mt.go (lv := [some (.inr (.inr 19)), none]) rfl rfl rfl ?_
  refine At.blk rfl rfl rfl fun sx => ?_
  simp (decide := true) only [RR, ms_app, toList_some, toList_none, if_true, if_false, true_and, and_true, cond_true, sm0, sm1, sm1l, sm2, lc_lt, lc_gt, lc_eq, Int.toNat_natCast, Int.reduceToNat, Nat.reduceAdd, Nat.reduceEqDiff, Int.reduceLT, Int.reduceEq, Int.reduceNeg, Int.reduceAdd, Int.reduceMul, Nat.reduceMul, ms_n, ms_i, ms_l, ms_p, PX, fxX hF, hn, hX.st]
  by_cases c : (n : Int) < 7
  · rw [if_pos c]
    refine At.blk rfl rfl rfl fun sx => ?_
    simp (decide := true) only [RR, ms_app, toList_some, toList_none, if_true, if_false, true_and, and_true, cond_true, sm0, sm1, sm1l, sm2, lc_lt, lc_gt, lc_eq, Int.toNat_natCast, Int.reduceToNat, Nat.reduceAdd, Nat.reduceEqDiff, Int.reduceLT, Int.reduceEq, Int.reduceNeg, Int.reduceAdd, Int.reduceMul, Nat.reduceMul, ms_n, ms_i, ms_l, ms_p, PX, fxX hF]
    refine cal_of rfl (x_next hF hT q1 q3 he (fun σ1 s2 f1 k1 x1 => ?_))
    obtain rfl := k1.uniq hk
    rw [show decide (((1 : Int) = 1 ∨ (1 : Int) = 2) ∧ s2 = e) = decide (s2 = e) by simp] at x1
    have F1 : Fr cyL cyT σ σ1 := f1.mono rfl
    have hF1 := hF.fr F1 rfl
    have hT1 : TxX σ1 N t := hT.cg (F1 1 1 rfl) (F1.row 2 rfl)
    have en : σ1 11 4 = (n : Int) := (f1 11 4 rfl).trans hn
    have er : ∀ p, σ1 12 p = σ 12 p := fun p => f1 12 p rfl
    simp (decide := true) only [RR, ms_app, toList_some, toList_none, if_true, if_false, true_and, and_true, cond_true, sm0, sm1, sm1l, sm2, lc_lt, lc_gt, lc_eq, Int.toNat_natCast, Int.reduceToNat, Nat.reduceAdd, Nat.reduceEqDiff, Int.reduceLT, Int.reduceEq, Int.reduceNeg, Int.reduceAdd, Int.reduceMul, Nat.reduceMul, ms_n, ms_i, ms_l, ms_p, PX]
    refine cal_of rfl (x_nameHere hF1 hT1 x1 (fun e1 hi p1 p3 hne => ?_) (fun k x hf => ?_))
    · have e1N := hi.2.2.2.1.2.1
      have hi1 := hi.lt
      simp (decide := true) only [RR, ms_app, toList_some, toList_none, if_true, if_false, true_and, and_true, cond_true, sm0, sm1, sm1l, sm2, lc_lt, lc_gt, lc_eq, Int.toNat_natCast, Int.reduceToNat, Nat.reduceAdd, Nat.reduceEqDiff, Int.reduceLT, Int.reduceEq, Int.reduceNeg, Int.reduceAdd, Int.reduceMul, Nat.reduceMul, ms_n, ms_i, ms_l, ms_p, PX]
      rw [if_neg hne]
      refine At.blk rfl rfl rfl fun sx => ?_
      simp (decide := true) only [RR, ms_app, toList_some, toList_none, if_true, if_false, true_and, and_true, cond_true, sm0, sm1, sm1l, sm2, lc_lt, lc_gt, lc_eq, Int.toNat_natCast, Int.reduceToNat, Nat.reduceAdd, Nat.reduceEqDiff, Int.reduceLT, Int.reduceEq, Int.reduceNeg, Int.reduceAdd, Int.reduceMul, Nat.reduceMul, ms_n, ms_i, ms_l, ms_p, PX, fxX hF1]
      refine cal_of rfl (x_find hF1 en (by omega) (fun p hp hpe hq => ?_) (fun hq => ?_))
      · simp (decide := true) only [RR, ms_app, toList_some, toList_none, if_true, if_false, true_and, and_true, cond_true, sm0, sm1, sm1l, sm2, lc_lt, lc_gt, lc_eq, Int.toNat_natCast, Int.reduceToNat, Nat.reduceAdd, Nat.reduceEqDiff, Int.reduceLT, Int.reduceEq, Int.reduceNeg, Int.reduceAdd, Int.reduceMul, Nat.reduceMul, ms_n, ms_i, ms_l, ms_p, PX, fxX hF1, x1.st]
        rw [if_neg (by omega)]
        refine cal_of rfl (x_fail ?_)
        simp (decide := true) only [RR, ms_app, toList_some, toList_none, if_true, if_false, true_and, and_true, cond_true, sm0, sm1, sm1l, sm2, lc_lt, lc_gt, lc_eq, Int.toNat_natCast, Int.reduceToNat, Nat.reduceAdd, Nat.reduceEqDiff, Int.reduceLT, Int.reduceEq, Int.reduceNeg, Int.reduceAdd, Int.reduceMul, Nat.reduceMul, ms_n, ms_i, ms_l, ms_p, PX]
        exact h0 _ 3 s2 ((F1.set rfl).set rfl) rfl rfl ⟨n, by omega, hn, Or.inr ⟨by omega, Or.inr ⟨e1, hi, Or.inl ⟨rfl, rfl, p, hp, by rw [← er]; exact hpe⟩⟩⟩⟩
      · have hq2 : ∀ p, p < n → σ 12 p ≠ enc5 (nmL t s2 (e1 - s2)) := fun p hp => by rw [← er]; exact hq p hp
        simp (decide := true) only [RR, ms_app, toList_some, toList_none, if_true, if_false, true_and, and_true, cond_true, sm0, sm1, sm1l, sm2, lc_lt, lc_gt, lc_eq, Int.toNat_natCast, Int.reduceToNat, Nat.reduceAdd, Nat.reduceEqDiff, Int.reduceLT, Int.reduceEq, Int.reduceNeg, Int.reduceAdd, Int.reduceMul, Nat.reduceMul, ms_n, ms_i, ms_l, ms_p, PX]
        refine At.blk rfl rfl rfl fun sx => ?_
        simp (decide := true) only [RR, ms_app, toList_some, toList_none, if_true, if_false, true_and, and_true, cond_true, sm0, sm1, sm1l, sm2, lc_lt, lc_gt, lc_eq, Int.toNat_natCast, Int.reduceToNat, Nat.reduceAdd, Nat.reduceEqDiff, Int.reduceLT, Int.reduceEq, Int.reduceNeg, Int.reduceAdd, Int.reduceMul, Nat.reduceMul, ms_n, ms_i, ms_l, ms_p, PX, fxX hF1]
        refine cal_of rfl (x_next hF1 hT1 p1 p3 e1N (fun σ2 s3 f2 k2 x2 => ?_))
        rw [show decide (((1 : Int) = 1 ∨ (1 : Int) = 2) ∧ s3 = e1) = decide (s3 = e1) by simp] at x2
        have F2 : Fr cyL cyT σ σ2 := F1.trans (f2.mono rfl)
        have hF2 := hF.fr F2 rfl
        have hT2 : TxX σ2 N t := hT.cg (F2 1 1 rfl) (F2.row 2 rfl)
        have b4 : ∀ σ' k x, Fr cyL cyT σ σ' → σ' 19 2 = k → σ' 19 3 = x → cyPn N t s0 s2 (decide (s2 = e)) σ k x → At (d + 39) 41 4 [some (.inr (.inr 19)), some (.inl (enc5 (nmL t s2 (e1 - s2))))] [] σ' K := by
          intro σ' k x a1 a2 a3 a4
          refine At.blk rfl rfl rfl fun sx => ?_
          simp (decide := true) only [RR, ms_app, toList_some, toList_none, if_true, if_false, true_and, and_true, cond_true, sm0, sm1, sm1l, sm2, lc_lt, lc_gt, lc_eq, Int.toNat_natCast, Int.reduceToNat, Nat.reduceAdd, Nat.reduceEqDiff, Int.reduceLT, Int.reduceEq, Int.reduceNeg, Int.reduceAdd, Int.reduceMul, Nat.reduceMul, ms_n, ms_i, ms_l, ms_p, PX]
          exact h0 σ' k x a1 a2 a3 a4
        simp (decide := true) only [RR, ms_app, toList_some, toList_none, if_true, if_false, true_and, and_true, cond_true, sm0, sm1, sm1l, sm2, lc_lt, lc_gt, lc_eq, Int.toNat_natCast, Int.reduceToNat, Nat.reduceAdd, Nat.reduceEqDiff, Int.reduceLT, Int.reduceEq, Int.reduceNeg, Int.reduceAdd, Int.reduceMul, Nat.reduceMul, ms_n, ms_i, ms_l, ms_p, PX]
        refine cal_of rfl (x_takeWord (w := 1) (by decide) hF2 hT2 x2 (fun σ3 e2 s4 hw k3 f3 x3 => ?_) (fun hw => ?_))
        · have F3 : Fr cyL cyT σ σ3 := F2.trans (f3.mono rfl)
          have hF3 := hF.fr F3 rfl
          have hT3 : TxX σ3 N t := hT.cg (F3 1 1 rfl) (F3.row 2 rfl)
          have hw1 := hw.lt (by decide)
          simp (decide := true) only [RR, ms_app, toList_some, toList_none, if_true, if_false, true_and, and_true, cond_true, sm0, sm1, sm1l, sm2, lc_lt, lc_gt, lc_eq, Int.toNat_natCast, Int.reduceToNat, Nat.reduceAdd, Nat.reduceEqDiff, Int.reduceLT, Int.reduceEq, Int.reduceNeg, Int.reduceAdd, Int.reduceMul, Nat.reduceMul, ms_n, ms_i, ms_l, ms_p, PX]
          refine cal_of rfl (x_checkNumber (a := 0) (b := 20) hF3 hT3 x3 (fun e3 hm h4 hv p4 p5 p6 => ?_) (fun k x hf => ?_))
          · have hm1 := hm.lt
            have e3N := hm.2.2.2.2.1
            simp (decide := true) only [RR, ms_app, toList_some, toList_none, if_true, if_false, true_and, and_true, cond_true, sm0, sm1, sm1l, sm2, lc_lt, lc_gt, lc_eq, Int.toNat_natCast, Int.reduceToNat, Nat.reduceAdd, Nat.reduceEqDiff, Int.reduceLT, Int.reduceEq, Int.reduceNeg, Int.reduceAdd, Int.reduceMul, Nat.reduceMul, ms_n, ms_i, ms_l, ms_p, PX]
            have en3 : σ3 11 4 = (n : Int) := by rw [f3 11 4 rfl, f2 11 4 rfl]; exact en
            have G3 : Fr [] tkL σ σ3 := (f1.trans f2).trans f3
            refine At.blk rfl rfl rfl fun sx => ?_
            simp (decide := true) only [RR, ms_app, toList_some, toList_none, if_true, if_false, true_and, and_true, cond_true, sm0, sm1, sm1l, sm2, lc_lt, lc_gt, lc_eq, Int.toNat_natCast, Int.reduceToNat, Nat.reduceAdd, Nat.reduceEqDiff, Int.reduceLT, Int.reduceEq, Int.reduceNeg, Int.reduceAdd, Int.reduceMul, Nat.reduceMul, ms_n, ms_i, ms_l, ms_p, PX, fxX hF3, p6]
            refine cal_of rfl (x_addPart hF3 en3 (by omega) ?_)
            simp (decide := true) only [RR, ms_app, toList_some, toList_none, if_true, if_false, true_and, and_true, cond_true, sm0, sm1, sm1l, sm2, lc_lt, lc_gt, lc_eq, Int.toNat_natCast, Int.reduceToNat, Nat.reduceAdd, Nat.reduceEqDiff, Int.reduceLT, Int.reduceEq, Int.reduceNeg, Int.reduceAdd, Int.reduceMul, Nat.reduceMul, ms_n, ms_i, ms_l, ms_p, PX, fxX hF3]
            have F4 : Fr cyL cyT σ (mj_set (mj_set (mj_set σ3 12 n (enc5 (nmL t s2 (e1 - s2)))) 13 n (numV t s4 (e3 - s4))) 11 4 ((n + 1 : Nat) : Int)) := ((F3.set rfl).set rfl).set rfl
            have G4 : cyE (mj_set (mj_set (mj_set σ3 12 n (enc5 (nmL t s2 (e1 - s2)))) 13 n (numV t s4 (e3 - s4))) 11 4 ((n + 1 : Nat) : Int)) (mj_set (mj_set (mj_set σ 12 n (enc5 (nmL t s2 (e1 - s2)))) 13 n (numV t s4 (e3 - s4))) 11 4 ((n + 1 : Nat) : Int)) := (((cyE.tk G3).set).set).set
            have p4' : mj_set (mj_set (mj_set σ3 12 n (enc5 (nmL t s2 (e1 - s2)))) 13 n (numV t s4 (e3 - s4))) 11 4 ((n + 1 : Nat) : Int) 20 1 = 2 := p4
            have p5' : mj_set (mj_set (mj_set σ3 12 n (enc5 (nmL t s2 (e1 - s2)))) 13 n (numV t s4 (e3 - s4))) 11 4 ((n + 1 : Nat) : Int) 20 3 = (e3 : Int) := p5
            have D4 : cyD (mj_set (mj_set (mj_set σ 12 n (enc5 (nmL t s2 (e1 - s2)))) 13 n (numV t s4 (e3 - s4))) 11 4 ((n + 1 : Nat) : Int)) s0 := ⟨⟨by show (0 : Int) ≤ ((n + 1 : Nat) : Int); omega, by show ((n + 1 : Nat) : Int) ≤ 7; omega⟩, hD.2⟩
            have u2 : mj_set (mj_set (mj_set σ3 12 n (enc5 (nmL t s2 (e1 - s2)))) 13 n (numV t s4 (e3 - s4))) 11 4 ((n + 1 : Nat) : Int) 19 2 = σ 19 2 := G3 19 2 rfl
            have u3 : mj_set (mj_set (mj_set σ3 12 n (enc5 (nmL t s2 (e1 - s2)))) 13 n (numV t s4 (e3 - s4))) 11 4 ((n + 1 : Nat) : Int) 19 3 = σ 19 3 := G3 19 3 rfl
            generalize mj_set (mj_set (mj_set σ3 12 n (enc5 (nmL t s2 (e1 - s2)))) 13 n (numV t s4 (e3 - s4))) 11 4 ((n + 1 : Nat) : Int) = σ4 at *
            have hF4 := hF.fr F4 rfl
            have hT4 : TxX σ4 N t := hT.cg (F4 1 1 rfl) (F4.row 2 rfl)
            refine cal_of rfl (x_next hF4 hT4 p4' p5' e3N (fun σ5 s5 f5 k5 x5 => ?_))
            rw [show decide (((2 : Int) = 1 ∨ (2 : Int) = 2) ∧ s5 = e3) = decide (s5 = e3) by simp] at x5
            have z1 := k1.1
            have z2 := k2.1
            have z3 := k3.1
            have z5 := k5.1
            simp (decide := true) only [RR, ms_app, toList_some, toList_none, if_true, if_false, true_and, and_true, cond_true, sm0, sm1, sm1l, sm2, lc_lt, lc_gt, lc_eq, Int.toNat_natCast, Int.reduceToNat, Nat.reduceAdd, Nat.reduceEqDiff, Int.reduceLT, Int.reduceEq, Int.reduceNeg, Int.reduceAdd, Int.reduceMul, Nat.reduceMul, ms_n, ms_i, ms_l, ms_p, PX]
            refine h1 σ5 s5 _ (F4.trans (f5.mono rfl)) x5 (by omega) ((f5 19 2 rfl).trans u2) ((f5 19 3 rfl).trans u3) (D4.cg ((cyE.tk f5).trans G4) (by omega)) ⟨n, e1, s3, e2, s4, e3, by omega, hn, hi, hq2, k2, hw, k3, hm, h4, hv, k5, rfl, (cyE.tk f5).trans G4⟩
          · simp (decide := true) only [RR, ms_app, toList_some, toList_none, if_true, if_false, true_and, and_true, cond_true, sm0, sm1, sm1l, sm2, lc_lt, lc_gt, lc_eq, Int.toNat_natCast, Int.reduceToNat, Nat.reduceAdd, Nat.reduceEqDiff, Int.reduceLT, Int.reduceEq, Int.reduceNeg, Int.reduceAdd, Int.reduceMul, Nat.reduceMul, ms_n, ms_i, ms_l, ms_p, PX]
            exact b4 _ k x ((F3.set rfl).set rfl) rfl rfl ⟨n, by omega, hn, Or.inr ⟨by omega, Or.inr ⟨e1, hi, Or.inr ⟨hq2, s3, k2, Or.inr ⟨e2, s4, hw, k3, hf⟩⟩⟩⟩⟩
        · simp (decide := true) only [RR, ms_app, toList_some, toList_none, if_true, if_false, true_and, and_true, cond_true, sm0, sm1, sm1l, sm2, lc_lt, lc_gt, lc_eq, Int.toNat_natCast, Int.reduceToNat, Nat.reduceAdd, Nat.reduceEqDiff, Int.reduceLT, Int.reduceEq, Int.reduceNeg, Int.reduceAdd, Int.reduceMul, Nat.reduceMul, ms_n, ms_i, ms_l, ms_p, PX]
          exact b4 _ 1 s3 ((F2.set rfl).set rfl) rfl rfl ⟨n, by omega, hn, Or.inr ⟨by omega, Or.inr ⟨e1, hi, Or.inr ⟨hq2, s3, k2, Or.inl ⟨rfl, rfl, hw⟩⟩⟩⟩⟩
    · simp (decide := true) only [RR, ms_app, toList_some, toList_none, if_true, if_false, true_and, and_true, cond_true, sm0, sm1, sm1l, sm2, lc_lt, lc_gt, lc_eq, Int.toNat_natCast, Int.reduceToNat, Nat.reduceAdd, Nat.reduceEqDiff, Int.reduceLT, Int.reduceEq, Int.reduceNeg, Int.reduceAdd, Int.reduceMul, Nat.reduceMul, ms_n, ms_i, ms_l, ms_p, PX]
      exact h0 _ k x ((F1.set rfl).set rfl) rfl rfl ⟨n, by omega, hn, Or.inr ⟨by omega, Or.inl hf⟩⟩
  · rw [if_neg c]
    refine cal_of rfl (x_fail ?_)
    simp (decide := true) only [RR, ms_app, toList_some, toList_none, if_true, if_false, true_and, and_true, cond_true, sm0, sm1, sm1l, sm2, lc_lt, lc_gt, lc_eq, Int.toNat_natCast, Int.reduceToNat, Nat.reduceAdd, Nat.reduceEqDiff, Int.reduceLT, Int.reduceEq, Int.reduceNeg, Int.reduceAdd, Int.reduceMul, Nat.reduceMul, ms_n, ms_i, ms_l, ms_p, PX]
    exact h0 _ 5 s0 ((Fr.same.set rfl).set rfl) rfl rfl ⟨n, by omega, hn, Or.inl ⟨by omega, rfl, rfl⟩⟩
end
