theorem cyo_tab : ∀ n : Nat, n < 8 → ∀ v : Nat, v < 2 ^ n → ∀ p : Nat, p < n → (0 ≤ i_or (v : Int) (i_shl 1 (p : Int)) ∧ i_or (v : Int) (i_shl 1 (p : Int)) < 2 ^ n) ∧ ∀ j : Nat, j < n → bit (i_or (v : Int) (i_shl 1 (p : Int))) j = if j = p then 1 else bit (v : Int) j := by decide +kernel
theorem cyo {n p : Nat} {v : Int} (hn : n ≤ 7) (hp : p < n) (h0 : 0 ≤ v) (h1 : v < 2 ^ n) : (0 ≤ i_or v (i_shl 1 (p : Int)) ∧ i_or v (i_shl 1 (p : Int)) < 2 ^ n) ∧ ∀ j : Nat, j < n → bit (i_or v (i_shl 1 (p : Int))) j = if j = p then 1 else bit v j := by
  obtain ⟨u, rfl⟩ := Int.eq_ofNat_of_zero_le h0
  refine cyo_tab n (by omega) u ?_ p hp
  have : ((2 ^ n : Nat) : Int) = (2 : Int) ^ n := by simp
  omega
theorem cyo7 {p : Nat} {v : Int} (hp : p < 7) (h : 0 ≤ v ∧ v < 128) : (0 ≤ i_or v (i_shl 1 (p : Int)) ∧ i_or v (i_shl 1 (p : Int)) < 128) ∧ ∀ j : Nat, j < 7 → bit (i_or v (i_shl 1 (p : Int))) j = if j = p then 1 else bit v j := cyo (n := 7) (by decide) hp h.1 h.2
/-- the part p is named at s, to e -/
def cyNm (N : Nat) (t : Nat → Int) (σ : mM) (s : Nat) (g : Bool) (n e p : Nat) : Prop := IsNa N t s g e ∧ p < n ∧ σ 12 p = enc5 (nmL t s (e - s)) ∧ ∀ q, q < p → σ 12 q ≠ enc5 (nmL t s (e - s))
/-- no part is named at s: fault k at x -/
def cyNo (N : Nat) (t : Nat → Int) (σ : mM) (s : Nat) (g : Bool) (n : Nat) (k x : Int) : Prop := NaF N t s g k x ∨ (k = 3 ∧ x = (s : Int) ∧ ∃ e, IsNa N t s g e ∧ ∀ p, p < n → σ 12 p ≠ enc5 (nmL t s (e - s)))
/-- two parts are told to be near -/
def cyNr (N : Nat) (t : Nat → Int) (s : Nat) (g : Bool) (σ : mM) (s' : Nat) (g' : Bool) (τ : mM) : Prop := ∃ n m e a s2 e2 b : Nat, n ≤ 7 ∧ σ 11 4 = (n : Int) ∧ m < 12 ∧ σ 11 5 = (m : Int) ∧ cyNm N t σ s g n e a ∧ Skp N t e s2 ∧ cyNm N t σ s2 (decide (s2 = e)) n e2 b ∧ b ≠ a ∧ bit (σ 14 a) b ≠ 1 ∧ Skp N t e2 s' ∧ g' = decide (s' = e2) ∧ cyE τ (mj_set (mj_set (mj_set σ 14 a (i_or (σ 14 a) (i_shl 1 (b : Int)))) 14 b (i_or (σ 14 b) (i_shl 1 (a : Int)))) 11 5 ((m + 1 : Nat) : Int))
def cyNn (N : Nat) (t : Nat → Int) (s0 s : Nat) (g : Bool) (σ : mM) (k x : Int) : Prop := ∃ n m : Nat, n ≤ 7 ∧ σ 11 4 = (n : Int) ∧ m ≤ 12 ∧ σ 11 5 = (m : Int) ∧ ((m = 12 ∧ k = 5 ∧ x = (s0 : Int)) ∨ (m < 12 ∧ (cyNo N t σ s g n k x ∨ ∃ e a s2, cyNm N t σ s g n e a ∧ Skp N t e s2 ∧ (cyNo N t σ s2 (decide (s2 = e)) n k x ∨ ∃ e2 b, cyNm N t σ s2 (decide (s2 = e)) n e2 b ∧ k = 3 ∧ x = (s2 : Int) ∧ (b = a ∨ bit (σ 14 a) b = 1)))))
/-- an aunt, or who is deaf, is told: field f -/
def cyFl (f : Nat) (N : Nat) (t : Nat → Int) (s : Nat) (g : Bool) (σ : mM) (s' : Nat) (g' : Bool) (τ : mM) : Prop := ∃ n e p : Nat, n ≤ 7 ∧ σ 11 4 = (n : Int) ∧ cyNm N t σ s g n e p ∧ bit (σ 11 f) p ≠ 1 ∧ Skp N t e s' ∧ g' = decide (s' = e) ∧ cyE τ (mj_set σ 11 f (i_or (σ 11 f) (i_shl 1 (p : Int))))
def cyFn (f : Nat) (N : Nat) (t : Nat → Int) (_s0 s : Nat) (g : Bool) (σ : mM) (k x : Int) : Prop := ∃ n : Nat, n ≤ 7 ∧ σ 11 4 = (n : Int) ∧ (cyNo N t σ s g n k x ∨ ∃ e p, cyNm N t σ s g n e p ∧ k = 3 ∧ x = (s : Int) ∧ bit (σ 11 f) p = 1)
/-- a setting is told: field f, from a to b -/
def cySe (f : Nat) (a b : Int) (N : Nat) (t : Nat → Int) (s : Nat) (g : Bool) (σ : mM) (s' : Nat) (g' : Bool) (τ : mM) : Prop := ∃ e : Nat, IsNm N t s g e ∧ e - s ≤ 4 ∧ (a ≤ numV t s (e - s) ∧ numV t s (e - s) ≤ b) ∧ Skp N t e s' ∧ g' = decide (s' = e) ∧ cyE τ (mj_set σ 11 f (numV t s (e - s)))
def cySn (a b : Int) (N : Nat) (t : Nat → Int) (_s0 s : Nat) (g : Bool) (_σ : mM) (k x : Int) : Prop := NmF N t s g a b k x
section
variable {N : Nat} {t : Nat → Int}
theorem x_partN {d : Nat} {σ : mM} {K : Option mV → mM → Prop} {s n : Nat} {g : Bool} {mk : Int} (hm : 0 ≤ mk ∧ mk < 128) (hF : Fix σ) (hT : TxX σ N t) (hX : TX σ N t s g) (hn : σ 11 4 = (n : Int)) (n7 : n ≤ 7)
    (h1 : ∀ e p, cyNm N t σ s g n e p → σ 20 1 = 1 → σ 20 3 = (e : Int) → bit mk p ≠ 1 → K (some (.inl (p : Int))) σ)
    (h0 : ∀ k x, (cyNo N t σ s g n k x ∨ (k = 3 ∧ x = (s : Int) ∧ ∃ e p, cyNm N t σ s g n e p ∧ bit mk p = 1)) → K (some (.inl (-1))) (mj_set (mj_set σ 19 2 k) 19 3 x)) : Mt (d + 4) 48 [.inr (.inr 19), .inl mk] σ K := by
  refine x_partHere hm hF hT hX hn n7 (fun e p a1 a2 a3 a4 a5 a6 a7 => h1 e p ⟨a1, a4, a5, a6⟩ a2 a3 a7) (fun k x h => h0 k x ?_)
  rcases h with h | ⟨rfl, rfl, e, hi, h | ⟨p, hp, a, b, c⟩⟩
  · exact Or.inl (Or.inl h)
  · exact Or.inl (Or.inr ⟨rfl, rfl, e, hi, h⟩)
  · exact Or.inr ⟨rfl, rfl, e, p, ⟨hi, hp, a, b⟩, c⟩
theorem cyNm.cg {σ τ : mM} {s n e p : Nat} {g : Bool} (h : cyNm N t σ s g n e p) (hr : τ 12 = σ 12) : cyNm N t τ s g n e p := by
  unfold cyNm at *; rw [hr]; exact h
theorem cyNo.cg {σ τ : mM} {s n : Nat} {g : Bool} {k x : Int} (h : cyNo N t σ s g n k x) (hr : τ 12 = σ 12) : cyNo N t τ s g n k x := by
  unfold cyNo at *; rw [hr]; exact h
theorem x_addPair {d n m a b : Nat} {σ : mM} {K : Option mV → mM → Prop} (hF : Fix σ) (hn : σ 11 4 = (n : Int)) (n7 : n ≤ 7) (ha : a < n) (hb : b < n) (hab : b ≠ a) (hm : σ 11 5 = (m : Int)) (m12 : m < 12) (hK : K none (mj_set (mj_set (mj_set σ 14 a (i_or (σ 14 a) (i_shl 1 (b : Int)))) 14 b (i_or (σ 14 b) (i_shl 1 (a : Int)))) 11 5 ((m + 1 : Nat) : Int))) : Mt (d + 2) 6 [.inr (.inr 11), .inl (a : Int), .inl (b : Int)] σ K := by
  refine Mt.go (lv := [some (.inr (.inr 11)), some (.inl (a : Int)), some (.inl (b : Int))]) rfl rfl rfl ?_
  have w1 : Unit → w32 ((m : Int) + 1) = ((m + 1 : Nat) : Int) := fun _ => by rw [w32_small (by omega) (by omega)]; omega
  have ne : mj_set σ 14 a (i_or (σ 14 a) (i_shl 1 (b : Int))) 14 b = σ 14 b := by rw [ms_app, if_pos rfl, if_neg hab]
  refine At.blk rfl rfl rfl fun sx => ?_
  simp (decide := true) only [RR, ms_app, toList_some, toList_none, if_true, if_false, true_and, and_true, cond_true, sm0, sm1, sm1l, sm2, lc_lt, lc_gt, lc_eq, Int.toNat_natCast, Int.reduceToNat, Nat.reduceAdd, Nat.reduceEqDiff, Int.reduceLT, Int.reduceEq, Int.reduceNeg, Int.reduceAdd, Int.reduceMul, Nat.reduceMul, ms_n, ms_i, ms_l, ms_p, PX]
  refine cal_of rfl (x_holds11 (fun _ => ?_) (fun h => absurd ⟨by omega, by omega⟩ h))
  simp (decide := true) only [RR, ms_app, toList_some, toList_none, if_true, if_false, true_and, and_true, cond_true, sm0, sm1, sm1l, sm2, lc_lt, lc_gt, lc_eq, Int.toNat_natCast, Int.reduceToNat, Nat.reduceAdd, Nat.reduceEqDiff, Int.reduceLT, Int.reduceEq, Int.reduceNeg, Int.reduceAdd, Int.reduceMul, Nat.reduceMul, ms_n, ms_i, ms_l, ms_p, PX]
  refine cal_of rfl (x_holds11 (fun _ => ?_) (fun h => absurd ⟨by omega, by omega⟩ h))
  simp (decide := true) only [RR, ms_app, toList_some, toList_none, if_true, if_false, true_and, and_true, cond_true, sm0, sm1, sm1l, sm2, lc_lt, lc_gt, lc_eq, Int.toNat_natCast, Int.reduceToNat, Nat.reduceAdd, Nat.reduceEqDiff, Int.reduceLT, Int.reduceEq, Int.reduceNeg, Int.reduceAdd, Int.reduceMul, Nat.reduceMul, ms_n, ms_i, ms_l, ms_p, PX, fxX hF, hm, w1 ()]
  rw [if_neg hab]
  refine ⟨⟨by omega, by omega⟩, ⟨by omega, by omega⟩, ⟨by omega, by omega⟩, ⟨by omega, by omega⟩, ?_⟩
  refine At.blk rfl rfl rfl fun sx => ?_
  simp (decide := true) only [RR, ms_app, toList_some, toList_none, if_true, if_false, true_and, and_true, cond_true, sm0, sm1, sm1l, sm2, lc_lt, lc_gt, lc_eq, Int.toNat_natCast, Int.reduceToNat, Nat.reduceAdd, Nat.reduceEqDiff, Int.reduceLT, Int.reduceEq, Int.reduceNeg, Int.reduceAdd, Int.reduceMul, Nat.reduceMul, ms_n, ms_i, ms_l, ms_p, PX]
  exact hK
theorem x_aunt : cyX 43 [] N t (cyFl 6 N t) (cyFn 6 N t) := by
  intro d σ K s0 e s1 hF hT hX q1 q3 hse he hk hD h1 h0
  obtain ⟨n, hn⟩ := Int.eq_ofNat_of_zero_le hD.1.1
  have n7 := hD.1.2
  rw [hn] at n7
  refine Mt.go (lv := [some (.inr (.inr 19)), none]) rfl rfl rfl ?_
  refine At.blk rfl rfl rfl fun sx => ?_
  simp (decide := true) only [RR, ms_app, toList_some, toList_none, if_true, if_false, true_and, and_true, cond_true, sm0, sm1, sm1l, sm2, lc_lt, lc_gt, lc_eq, Int.toNat_natCast, Int.reduceToNat, Nat.reduceAdd, Nat.reduceEqDiff, Int.reduceLT, Int.reduceEq, Int.reduceNeg, Int.reduceAdd, Int.reduceMul, Nat.reduceMul, ms_n, ms_i, ms_l, ms_p, PX, fxX hF]
  refine cal_of rfl (x_next hF hT q1 q3 he (fun σ1 s2 f1 k1 x1 => ?_))
  obtain rfl := k1.uniq hk
  rw [show decide (((1 : Int) = 1 ∨ (1 : Int) = 2) ∧ s2 = e) = decide (s2 = e) by simp] at x1
  have F1 : Fr cyL cyT σ σ1 := f1.mono rfl
  have hF1 := hF.fr F1 rfl
  have hT1 : TxX σ1 N t := hT.cg (F1 1 1 rfl) (F1.row 2 rfl)
  have en : σ1 11 4 = (n : Int) := (f1 11 4 rfl).trans hn
  have em : σ1 11 6 = σ 11 6 := f1 11 6 rfl
  have er : σ 12 = σ1 12 := (f1.row 12 rfl).symm
  simp (decide := true) only [RR, ms_app, toList_some, toList_none, if_true, if_false, true_and, and_true, cond_true, sm0, sm1, sm1l, sm2, lc_lt, lc_gt, lc_eq, Int.toNat_natCast, Int.reduceToNat, Nat.reduceAdd, Nat.reduceEqDiff, Int.reduceLT, Int.reduceEq, Int.reduceNeg, Int.reduceAdd, Int.reduceMul, Nat.reduceMul, ms_n, ms_i, ms_l, ms_p, PX, fxX hF1, em]
  refine cal_of rfl (x_partN hD.2.2.1 hF1 hT1 x1 en (by omega) (fun e1 p hp p1 p3 hb => ?_) (fun k x hf => ?_))
  · have e1N := hp.1.2.2.2.1.2.1
    have hi1 := hp.1.lt
    have hpn := hp.2.1
    have ob := cyo7 (p := p) (by omega) hD.2.2.1
    simp (decide := true) only [RR, ms_app, toList_some, toList_none, if_true, if_false, true_and, and_true, cond_true, sm0, sm1, sm1l, sm2, lc_lt, lc_gt, lc_eq, Int.toNat_natCast, Int.reduceToNat, Nat.reduceAdd, Nat.reduceEqDiff, Int.reduceLT, Int.reduceEq, Int.reduceNeg, Int.reduceAdd, Int.reduceMul, Nat.reduceMul, ms_n, ms_i, ms_l, ms_p, PX]
    rw [if_neg (by omega)]
    refine At.blk rfl rfl rfl fun sx => ?_
    simp (decide := true) only [RR, ms_app, toList_some, toList_none, if_true, if_false, true_and, and_true, cond_true, sm0, sm1, sm1l, sm2, lc_lt, lc_gt, lc_eq, Int.toNat_natCast, Int.reduceToNat, Nat.reduceAdd, Nat.reduceEqDiff, Int.reduceLT, Int.reduceEq, Int.reduceNeg, Int.reduceAdd, Int.reduceMul, Nat.reduceMul, ms_n, ms_i, ms_l, ms_p, PX, fxX hF1, em]
    have F2 : Fr cyL cyT σ (mj_set σ1 11 6 (i_or (σ 11 6) (i_shl 1 (p : Int)))) := F1.set rfl
    have G2 : cyE (mj_set σ1 11 6 (i_or (σ 11 6) (i_shl 1 (p : Int)))) (mj_set σ 11 6 (i_or (σ 11 6) (i_shl 1 (p : Int)))) := (cyE.tk f1).set
    have p1' : mj_set σ1 11 6 (i_or (σ 11 6) (i_shl 1 (p : Int))) 20 1 = 1 := p1
    have p3' : mj_set σ1 11 6 (i_or (σ 11 6) (i_shl 1 (p : Int))) 20 3 = (e1 : Int) := p3
    have u2 : mj_set σ1 11 6 (i_or (σ 11 6) (i_shl 1 (p : Int))) 19 2 = σ 19 2 := f1 19 2 rfl
    have u3 : mj_set σ1 11 6 (i_or (σ 11 6) (i_shl 1 (p : Int))) 19 3 = σ 19 3 := f1 19 3 rfl
    have D4 : cyD (mj_set σ 11 6 (i_or (σ 11 6) (i_shl 1 (p : Int)))) s0 := by
      obtain ⟨d1, d2, d3, d4, d5, d6⟩ := hD
      first
        | exact ⟨d1, d2, ob.1, d4, d5, d6⟩
        | exact ⟨d1, d2, d3, ob.1, d5, d6⟩
    generalize mj_set σ1 11 6 (i_or (σ 11 6) (i_shl 1 (p : Int))) = σ4 at *
    have hF4 := hF.fr F2 rfl
    have hT4 : TxX σ4 N t := hT.cg (F2 1 1 rfl) (F2.row 2 rfl)
    refine cal_of rfl (x_next hF4 hT4 p1' p3' e1N (fun σ5 s5 f5 k5 x5 => ?_))
    rw [show decide (((1 : Int) = 1 ∨ (1 : Int) = 2) ∧ s5 = e1) = decide (s5 = e1) by simp] at x5
    have z1 := k1.1
    have z5 := k5.1
    simp (decide := true) only [RR, ms_app, toList_some, toList_none, if_true, if_false, true_and, and_true, cond_true, sm0, sm1, sm1l, sm2, lc_lt, lc_gt, lc_eq, Int.toNat_natCast, Int.reduceToNat, Nat.reduceAdd, Nat.reduceEqDiff, Int.reduceLT, Int.reduceEq, Int.reduceNeg, Int.reduceAdd, Int.reduceMul, Nat.reduceMul, ms_n, ms_i, ms_l, ms_p, PX]
    exact h1 σ5 s5 _ (F2.trans (f5.mono rfl)) x5 (by omega) ((f5 19 2 rfl).trans u2) ((f5 19 3 rfl).trans u3) (D4.cg ((cyE.tk f5).trans G2) (by omega)) ⟨n, e1, p, by omega, hn, hp.cg er, hb, k5, rfl, (cyE.tk f5).trans G2⟩
  · simp (decide := true) only [RR, ms_app, toList_some, toList_none, if_true, if_false, true_and, and_true, cond_true, sm0, sm1, sm1l, sm2, lc_lt, lc_gt, lc_eq, Int.toNat_natCast, Int.reduceToNat, Nat.reduceAdd, Nat.reduceEqDiff, Int.reduceLT, Int.reduceEq, Int.reduceNeg, Int.reduceAdd, Int.reduceMul, Nat.reduceMul, ms_n, ms_i, ms_l, ms_p, PX]
    refine h0 _ k x ((F1.set rfl).set rfl) rfl rfl ⟨n, by omega, hn, ?_⟩
    rcases hf with hf | ⟨rfl, rfl, e1, p, hp, hb⟩
    · exact Or.inl (hf.cg er)
    · exact Or.inr ⟨e1, p, hp.cg er, rfl, rfl, hb⟩
theorem x_deaf : cyX 44 [] N t (cyFl 7 N t) (cyFn 7 N t) := by
  intro d σ K s0 e s1 hF hT hX q1 q3 hse he hk hD h1 h0
  obtain ⟨n, hn⟩ := Int.eq_ofNat_of_zero_le hD.1.1
  have n7 := hD.1.2
  rw [hn] at n7
  refine Mt.go (lv := [some (.inr (.inr 19)), none]) rfl rfl rfl ?_
  refine At.blk rfl rfl rfl fun sx => ?_
  simp (decide := true) only [RR, ms_app, toList_some, toList_none, if_true, if_false, true_and, and_true, cond_true, sm0, sm1, sm1l, sm2, lc_lt, lc_gt, lc_eq, Int.toNat_natCast, Int.reduceToNat, Nat.reduceAdd, Nat.reduceEqDiff, Int.reduceLT, Int.reduceEq, Int.reduceNeg, Int.reduceAdd, Int.reduceMul, Nat.reduceMul, ms_n, ms_i, ms_l, ms_p, PX, fxX hF]
  refine cal_of rfl (x_next hF hT q1 q3 he (fun σ1 s2 f1 k1 x1 => ?_))
  obtain rfl := k1.uniq hk
  rw [show decide (((1 : Int) = 1 ∨ (1 : Int) = 2) ∧ s2 = e) = decide (s2 = e) by simp] at x1
  have F1 : Fr cyL cyT σ σ1 := f1.mono rfl
  have hF1 := hF.fr F1 rfl
  have hT1 : TxX σ1 N t := hT.cg (F1 1 1 rfl) (F1.row 2 rfl)
  have en : σ1 11 4 = (n : Int) := (f1 11 4 rfl).trans hn
  have em : σ1 11 7 = σ 11 7 := f1 11 7 rfl
  have er : σ 12 = σ1 12 := (f1.row 12 rfl).symm
  simp (decide := true) only [RR, ms_app, toList_some, toList_none, if_true, if_false, true_and, and_true, cond_true, sm0, sm1, sm1l, sm2, lc_lt, lc_gt, lc_eq, Int.toNat_natCast, Int.reduceToNat, Nat.reduceAdd, Nat.reduceEqDiff, Int.reduceLT, Int.reduceEq, Int.reduceNeg, Int.reduceAdd, Int.reduceMul, Nat.reduceMul, ms_n, ms_i, ms_l, ms_p, PX, fxX hF1, em]
  refine cal_of rfl (x_partN hD.2.2.2.1 hF1 hT1 x1 en (by omega) (fun e1 p hp p1 p3 hb => ?_) (fun k x hf => ?_))
  · have e1N := hp.1.2.2.2.1.2.1
    have hi1 := hp.1.lt
    have hpn := hp.2.1
    have ob := cyo7 (p := p) (by omega) hD.2.2.2.1
    simp (decide := true) only [RR, ms_app, toList_some, toList_none, if_true, if_false, true_and, and_true, cond_true, sm0, sm1, sm1l, sm2, lc_lt, lc_gt, lc_eq, Int.toNat_natCast, Int.reduceToNat, Nat.reduceAdd, Nat.reduceEqDiff, Int.reduceLT, Int.reduceEq, Int.reduceNeg, Int.reduceAdd, Int.reduceMul, Nat.reduceMul, ms_n, ms_i, ms_l, ms_p, PX]
    rw [if_neg (by omega)]
    refine At.blk rfl rfl rfl fun sx => ?_
    simp (decide := true) only [RR, ms_app, toList_some, toList_none, if_true, if_false, true_and, and_true, cond_true, sm0, sm1, sm1l, sm2, lc_lt, lc_gt, lc_eq, Int.toNat_natCast, Int.reduceToNat, Nat.reduceAdd, Nat.reduceEqDiff, Int.reduceLT, Int.reduceEq, Int.reduceNeg, Int.reduceAdd, Int.reduceMul, Nat.reduceMul, ms_n, ms_i, ms_l, ms_p, PX, fxX hF1, em]
    have F2 : Fr cyL cyT σ (mj_set σ1 11 7 (i_or (σ 11 7) (i_shl 1 (p : Int)))) := F1.set rfl
    have G2 : cyE (mj_set σ1 11 7 (i_or (σ 11 7) (i_shl 1 (p : Int)))) (mj_set σ 11 7 (i_or (σ 11 7) (i_shl 1 (p : Int)))) := (cyE.tk f1).set
    have p1' : mj_set σ1 11 7 (i_or (σ 11 7) (i_shl 1 (p : Int))) 20 1 = 1 := p1
    have p3' : mj_set σ1 11 7 (i_or (σ 11 7) (i_shl 1 (p : Int))) 20 3 = (e1 : Int) := p3
    have u2 : mj_set σ1 11 7 (i_or (σ 11 7) (i_shl 1 (p : Int))) 19 2 = σ 19 2 := f1 19 2 rfl
    have u3 : mj_set σ1 11 7 (i_or (σ 11 7) (i_shl 1 (p : Int))) 19 3 = σ 19 3 := f1 19 3 rfl
    have D4 : cyD (mj_set σ 11 7 (i_or (σ 11 7) (i_shl 1 (p : Int)))) s0 := by
      obtain ⟨d1, d2, d3, d4, d5, d6⟩ := hD
      first
        | exact ⟨d1, d2, ob.1, d4, d5, d6⟩
        | exact ⟨d1, d2, d3, ob.1, d5, d6⟩
    generalize mj_set σ1 11 7 (i_or (σ 11 7) (i_shl 1 (p : Int))) = σ4 at *
    have hF4 := hF.fr F2 rfl
    have hT4 : TxX σ4 N t := hT.cg (F2 1 1 rfl) (F2.row 2 rfl)
    refine cal_of rfl (x_next hF4 hT4 p1' p3' e1N (fun σ5 s5 f5 k5 x5 => ?_))
    rw [show decide (((1 : Int) = 1 ∨ (1 : Int) = 2) ∧ s5 = e1) = decide (s5 = e1) by simp] at x5
    have z1 := k1.1
    have z5 := k5.1
    simp (decide := true) only [RR, ms_app, toList_some, toList_none, if_true, if_false, true_and, and_true, cond_true, sm0, sm1, sm1l, sm2, lc_lt, lc_gt, lc_eq, Int.toNat_natCast, Int.reduceToNat, Nat.reduceAdd, Nat.reduceEqDiff, Int.reduceLT, Int.reduceEq, Int.reduceNeg, Int.reduceAdd, Int.reduceMul, Nat.reduceMul, ms_n, ms_i, ms_l, ms_p, PX]
    exact h1 σ5 s5 _ (F2.trans (f5.mono rfl)) x5 (by omega) ((f5 19 2 rfl).trans u2) ((f5 19 3 rfl).trans u3) (D4.cg ((cyE.tk f5).trans G2) (by omega)) ⟨n, e1, p, by omega, hn, hp.cg er, hb, k5, rfl, (cyE.tk f5).trans G2⟩
  · simp (decide := true) only [RR, ms_app, toList_some, toList_none, if_true, if_false, true_and, and_true, cond_true, sm0, sm1, sm1l, sm2, lc_lt, lc_gt, lc_eq, Int.toNat_natCast, Int.reduceToNat, Nat.reduceAdd, Nat.reduceEqDiff, Int.reduceLT, Int.reduceEq, Int.reduceNeg, Int.reduceAdd, Int.reduceMul, Nat.reduceMul, ms_n, ms_i, ms_l, ms_p, PX]
    refine h0 _ k x ((F1.set rfl).set rfl) rfl rfl ⟨n, by omega, hn, ?_⟩
    rcases hf with hf | ⟨rfl, rfl, e1, p, hp, hb⟩
    · exact Or.inl (hf.cg er)
    · exact Or.inr ⟨e1, p, hp.cg er, rfl, rfl, hb⟩
theorem x_gale : cyX 46 [] N t (cySe 8 1 20 N t) (cySn 1 20 N t) := by
  intro d σ K s0 e s1 hF hT hX q1 q3 hse he hk hD h1 h0
  refine Mt.go (lv := [some (.inr (.inr 19))]) rfl rfl rfl ?_
  refine At.blk rfl rfl rfl fun sx => ?_
  simp (decide := true) only [RR, ms_app, toList_some, toList_none, if_true, if_false, true_and, and_true, cond_true, sm0, sm1, sm1l, sm2, lc_lt, lc_gt, lc_eq, Int.toNat_natCast, Int.reduceToNat, Nat.reduceAdd, Nat.reduceEqDiff, Int.reduceLT, Int.reduceEq, Int.reduceNeg, Int.reduceAdd, Int.reduceMul, Nat.reduceMul, ms_n, ms_i, ms_l, ms_p, PX, fxX hF]
  refine cal_of rfl (x_next hF hT q1 q3 he (fun σ1 s2 f1 k1 x1 => ?_))
  obtain rfl := k1.uniq hk
  rw [show decide (((1 : Int) = 1 ∨ (1 : Int) = 2) ∧ s2 = e) = decide (s2 = e) by simp] at x1
  have F1 : Fr cyL cyT σ σ1 := f1.mono rfl
  have hF1 := hF.fr F1 rfl
  have hT1 : TxX σ1 N t := hT.cg (F1 1 1 rfl) (F1.row 2 rfl)
  simp (decide := true) only [RR, ms_app, toList_some, toList_none, if_true, if_false, true_and, and_true, cond_true, sm0, sm1, sm1l, sm2, lc_lt, lc_gt, lc_eq, Int.toNat_natCast, Int.reduceToNat, Nat.reduceAdd, Nat.reduceEqDiff, Int.reduceLT, Int.reduceEq, Int.reduceNeg, Int.reduceAdd, Int.reduceMul, Nat.reduceMul, ms_n, ms_i, ms_l, ms_p, PX]
  refine cal_of rfl (x_checkNumber (a := 1) (b := 20) hF1 hT1 x1 (fun e3 hm h4 hv p4 p5 p6 => ?_) (fun k x hf => ?_))
  · have hm1 := hm.lt
    have e3N := hm.2.2.2.2.1
    simp (decide := true) only [RR, ms_app, toList_some, toList_none, if_true, if_false, true_and, and_true, cond_true, sm0, sm1, sm1l, sm2, lc_lt, lc_gt, lc_eq, Int.toNat_natCast, Int.reduceToNat, Nat.reduceAdd, Nat.reduceEqDiff, Int.reduceLT, Int.reduceEq, Int.reduceNeg, Int.reduceAdd, Int.reduceMul, Nat.reduceMul, ms_n, ms_i, ms_l, ms_p, PX]
    refine At.blk rfl rfl rfl fun sx => ?_
    simp (decide := true) only [RR, ms_app, toList_some, toList_none, if_true, if_false, true_and, and_true, cond_true, sm0, sm1, sm1l, sm2, lc_lt, lc_gt, lc_eq, Int.toNat_natCast, Int.reduceToNat, Nat.reduceAdd, Nat.reduceEqDiff, Int.reduceLT, Int.reduceEq, Int.reduceNeg, Int.reduceAdd, Int.reduceMul, Nat.reduceMul, ms_n, ms_i, ms_l, ms_p, PX, fxX hF1, p6]
    have F2 : Fr cyL cyT σ (mj_set σ1 11 8 (numV t s2 (e3 - s2))) := F1.set rfl
    have G2 : cyE (mj_set σ1 11 8 (numV t s2 (e3 - s2))) (mj_set σ 11 8 (numV t s2 (e3 - s2))) := (cyE.tk f1).set
    have p1' : mj_set σ1 11 8 (numV t s2 (e3 - s2)) 20 1 = 2 := p4
    have p3' : mj_set σ1 11 8 (numV t s2 (e3 - s2)) 20 3 = (e3 : Int) := p5
    have u2 : mj_set σ1 11 8 (numV t s2 (e3 - s2)) 19 2 = σ 19 2 := f1 19 2 rfl
    have u3 : mj_set σ1 11 8 (numV t s2 (e3 - s2)) 19 3 = σ 19 3 := f1 19 3 rfl
    have D4 : cyD (mj_set σ 11 8 (numV t s2 (e3 - s2))) s0 := hD
    generalize mj_set σ1 11 8 (numV t s2 (e3 - s2)) = σ4 at *
    have hF4 := hF.fr F2 rfl
    have hT4 : TxX σ4 N t := hT.cg (F2 1 1 rfl) (F2.row 2 rfl)
    refine cal_of rfl (x_next hF4 hT4 p1' p3' e3N (fun σ5 s5 f5 k5 x5 => ?_))
    rw [show decide (((2 : Int) = 1 ∨ (2 : Int) = 2) ∧ s5 = e3) = decide (s5 = e3) by simp] at x5
    have z1 := k1.1
    have z5 := k5.1
    simp (decide := true) only [RR, ms_app, toList_some, toList_none, if_true, if_false, true_and, and_true, cond_true, sm0, sm1, sm1l, sm2, lc_lt, lc_gt, lc_eq, Int.toNat_natCast, Int.reduceToNat, Nat.reduceAdd, Nat.reduceEqDiff, Int.reduceLT, Int.reduceEq, Int.reduceNeg, Int.reduceAdd, Int.reduceMul, Nat.reduceMul, ms_n, ms_i, ms_l, ms_p, PX]
    exact h1 σ5 s5 _ (F2.trans (f5.mono rfl)) x5 (by omega) ((f5 19 2 rfl).trans u2) ((f5 19 3 rfl).trans u3) (D4.cg ((cyE.tk f5).trans G2) (by omega)) ⟨e3, hm, h4, hv, k5, rfl, (cyE.tk f5).trans G2⟩
  · simp (decide := true) only [RR, ms_app, toList_some, toList_none, if_true, if_false, true_and, and_true, cond_true, sm0, sm1, sm1l, sm2, lc_lt, lc_gt, lc_eq, Int.toNat_natCast, Int.reduceToNat, Nat.reduceAdd, Nat.reduceEqDiff, Int.reduceLT, Int.reduceEq, Int.reduceNeg, Int.reduceAdd, Int.reduceMul, Nat.reduceMul, ms_n, ms_i, ms_l, ms_p, PX]
    exact h0 _ k x ((F1.set rfl).set rfl) rfl rfl hf
theorem x_slip : cyX 47 [] N t (cySe 9 0 100 N t) (cySn 0 100 N t) := by
  intro d σ K s0 e s1 hF hT hX q1 q3 hse he hk hD h1 h0
  refine Mt.go (lv := [some (.inr (.inr 19))]) rfl rfl rfl ?_
  refine At.blk rfl rfl rfl fun sx => ?_
  simp (decide := true) only [RR, ms_app, toList_some, toList_none, if_true, if_false, true_and, and_true, cond_true, sm0, sm1, sm1l, sm2, lc_lt, lc_gt, lc_eq, Int.toNat_natCast, Int.reduceToNat, Nat.reduceAdd, Nat.reduceEqDiff, Int.reduceLT, Int.reduceEq, Int.reduceNeg, Int.reduceAdd, Int.reduceMul, Nat.reduceMul, ms_n, ms_i, ms_l, ms_p, PX, fxX hF]
  refine cal_of rfl (x_next hF hT q1 q3 he (fun σ1 s2 f1 k1 x1 => ?_))
  obtain rfl := k1.uniq hk
  rw [show decide (((1 : Int) = 1 ∨ (1 : Int) = 2) ∧ s2 = e) = decide (s2 = e) by simp] at x1
  have F1 : Fr cyL cyT σ σ1 := f1.mono rfl
  have hF1 := hF.fr F1 rfl
  have hT1 : TxX σ1 N t := hT.cg (F1 1 1 rfl) (F1.row 2 rfl)
  simp (decide := true) only [RR, ms_app, toList_some, toList_none, if_true, if_false, true_and, and_true, cond_true, sm0, sm1, sm1l, sm2, lc_lt, lc_gt, lc_eq, Int.toNat_natCast, Int.reduceToNat, Nat.reduceAdd, Nat.reduceEqDiff, Int.reduceLT, Int.reduceEq, Int.reduceNeg, Int.reduceAdd, Int.reduceMul, Nat.reduceMul, ms_n, ms_i, ms_l, ms_p, PX]
  refine cal_of rfl (x_checkNumber (a := 0) (b := 100) hF1 hT1 x1 (fun e3 hm h4 hv p4 p5 p6 => ?_) (fun k x hf => ?_))
  · have hm1 := hm.lt
    have e3N := hm.2.2.2.2.1
    simp (decide := true) only [RR, ms_app, toList_some, toList_none, if_true, if_false, true_and, and_true, cond_true, sm0, sm1, sm1l, sm2, lc_lt, lc_gt, lc_eq, Int.toNat_natCast, Int.reduceToNat, Nat.reduceAdd, Nat.reduceEqDiff, Int.reduceLT, Int.reduceEq, Int.reduceNeg, Int.reduceAdd, Int.reduceMul, Nat.reduceMul, ms_n, ms_i, ms_l, ms_p, PX]
    refine At.blk rfl rfl rfl fun sx => ?_
    simp (decide := true) only [RR, ms_app, toList_some, toList_none, if_true, if_false, true_and, and_true, cond_true, sm0, sm1, sm1l, sm2, lc_lt, lc_gt, lc_eq, Int.toNat_natCast, Int.reduceToNat, Nat.reduceAdd, Nat.reduceEqDiff, Int.reduceLT, Int.reduceEq, Int.reduceNeg, Int.reduceAdd, Int.reduceMul, Nat.reduceMul, ms_n, ms_i, ms_l, ms_p, PX, fxX hF1, p6]
    have F2 : Fr cyL cyT σ (mj_set σ1 11 9 (numV t s2 (e3 - s2))) := F1.set rfl
    have G2 : cyE (mj_set σ1 11 9 (numV t s2 (e3 - s2))) (mj_set σ 11 9 (numV t s2 (e3 - s2))) := (cyE.tk f1).set
    have p1' : mj_set σ1 11 9 (numV t s2 (e3 - s2)) 20 1 = 2 := p4
    have p3' : mj_set σ1 11 9 (numV t s2 (e3 - s2)) 20 3 = (e3 : Int) := p5
    have u2 : mj_set σ1 11 9 (numV t s2 (e3 - s2)) 19 2 = σ 19 2 := f1 19 2 rfl
    have u3 : mj_set σ1 11 9 (numV t s2 (e3 - s2)) 19 3 = σ 19 3 := f1 19 3 rfl
    have D4 : cyD (mj_set σ 11 9 (numV t s2 (e3 - s2))) s0 := hD
    generalize mj_set σ1 11 9 (numV t s2 (e3 - s2)) = σ4 at *
    have hF4 := hF.fr F2 rfl
    have hT4 : TxX σ4 N t := hT.cg (F2 1 1 rfl) (F2.row 2 rfl)
    refine cal_of rfl (x_next hF4 hT4 p1' p3' e3N (fun σ5 s5 f5 k5 x5 => ?_))
    rw [show decide (((2 : Int) = 1 ∨ (2 : Int) = 2) ∧ s5 = e3) = decide (s5 = e3) by simp] at x5
    have z1 := k1.1
    have z5 := k5.1
    simp (decide := true) only [RR, ms_app, toList_some, toList_none, if_true, if_false, true_and, and_true, cond_true, sm0, sm1, sm1l, sm2, lc_lt, lc_gt, lc_eq, Int.toNat_natCast, Int.reduceToNat, Nat.reduceAdd, Nat.reduceEqDiff, Int.reduceLT, Int.reduceEq, Int.reduceNeg, Int.reduceAdd, Int.reduceMul, Nat.reduceMul, ms_n, ms_i, ms_l, ms_p, PX]
    exact h1 σ5 s5 _ (F2.trans (f5.mono rfl)) x5 (by omega) ((f5 19 2 rfl).trans u2) ((f5 19 3 rfl).trans u3) (D4.cg ((cyE.tk f5).trans G2) (by omega)) ⟨e3, hm, h4, hv, k5, rfl, (cyE.tk f5).trans G2⟩
  · simp (decide := true) only [RR, ms_app, toList_some, toList_none, if_true, if_false, true_and, and_true, cond_true, sm0, sm1, sm1l, sm2, lc_lt, lc_gt, lc_eq, Int.toNat_natCast, Int.reduceToNat, Nat.reduceAdd, Nat.reduceEqDiff, Int.reduceLT, Int.reduceEq, Int.reduceNeg, Int.reduceAdd, Int.reduceMul, Nat.reduceMul, ms_n, ms_i, ms_l, ms_p, PX]
    exact h0 _ k x ((F1.set rfl).set rfl) rfl rfl hf
theorem x_near : cyX 42 [] N t (cyNr N t) (cyNn N t) := by
  intro d σ K s0 e s1 hF hT hX q1 q3 hse he hk hD h1 h0
  obtain ⟨n, hn⟩ := Int.eq_ofNat_of_zero_le hD.1.1
  have n7 := hD.1.2
  rw [hn] at n7
  obtain ⟨m, hm⟩ := Int.eq_ofNat_of_zero_le hD.2.1.1
  have m12 := hD.2.1.2
  rw [hm] at m12
  refine Mt.go (lv := [some (.inr (.inr 19)), none, none]) rfl rfl rfl ?_
  refine At.blk rfl rfl rfl fun sx => ?_
  simp (decide := true) only [RR, ms_app, toList_some, toList_none, if_true, if_false, true_and, and_true, cond_true, sm0, sm1, sm1l, sm2, lc_lt, lc_gt, lc_eq, Int.toNat_natCast, Int.reduceToNat, Nat.reduceAdd, Nat.reduceEqDiff, Int.reduceLT, Int.reduceEq, Int.reduceNeg, Int.reduceAdd, Int.reduceMul, Nat.reduceMul, ms_n, ms_i, ms_l, ms_p, PX, fxX hF, hm, hX.st]
  by_cases c : (m : Int) < 12
  · rw [if_pos c]
    refine At.blk rfl rfl rfl fun sx => ?_
    simp (decide := true) only [RR, ms_app, toList_some, toList_none, if_true, if_false, true_and, and_true, cond_true, sm0, sm1, sm1l, sm2, lc_lt, lc_gt, lc_eq, Int.toNat_natCast, Int.reduceToNat, Nat.reduceAdd, Nat.reduceEqDiff, Int.reduceLT, Int.reduceEq, Int.reduceNeg, Int.reduceAdd, Int.reduceMul, Nat.reduceMul, ms_n, ms_i, ms_l, ms_p, PX, fxX hF]
    refine cal_of rfl (x_next hF hT q1 q3 he (fun σ1 s2 f1 k1 x1 => ?_))
    obtain rfl := k1.uniq hk
    rw [show decide (((1 : Int) = 1 ∨ (1 : Int) = 2) ∧ s2 = e) = decide (s2 = e) by simp] at x1
    have F1 : Fr cyL cyT σ σ1 := f1.mono rfl
    have hF1 := hF.fr F1 rfl
    have hT1 : TxX σ1 N t := hT.cg (F1 1 1 rfl) (F1.row 2 rfl)
    have en : σ1 11 4 = (n : Int) := (f1 11 4 rfl).trans hn
    have er : σ 12 = σ1 12 := (f1.row 12 rfl).symm
    simp (decide := true) only [RR, ms_app, toList_some, toList_none, if_true, if_false, true_and, and_true, cond_true, sm0, sm1, sm1l, sm2, lc_lt, lc_gt, lc_eq, Int.toNat_natCast, Int.reduceToNat, Nat.reduceAdd, Nat.reduceEqDiff, Int.reduceLT, Int.reduceEq, Int.reduceNeg, Int.reduceAdd, Int.reduceMul, Nat.reduceMul, ms_n, ms_i, ms_l, ms_p, PX]
    refine cal_of rfl (x_partN (mk := 0) (by decide) hF1 hT1 x1 en (by omega) (fun e1 a ha p1 p3 _ => ?_) (fun k x hf => ?_))
    · have e1N := ha.1.2.2.2.1.2.1
      have hi1 := ha.1.lt
      have han := ha.2.1
      simp (decide := true) only [RR, ms_app, toList_some, toList_none, if_true, if_false, true_and, and_true, cond_true, sm0, sm1, sm1l, sm2, lc_lt, lc_gt, lc_eq, Int.toNat_natCast, Int.reduceToNat, Nat.reduceAdd, Nat.reduceEqDiff, Int.reduceLT, Int.reduceEq, Int.reduceNeg, Int.reduceAdd, Int.reduceMul, Nat.reduceMul, ms_n, ms_i, ms_l, ms_p, PX]
      rw [if_neg (by omega)]
      refine At.blk rfl rfl rfl fun sx => ?_
      simp (decide := true) only [RR, ms_app, toList_some, toList_none, if_true, if_false, true_and, and_true, cond_true, sm0, sm1, sm1l, sm2, lc_lt, lc_gt, lc_eq, Int.toNat_natCast, Int.reduceToNat, Nat.reduceAdd, Nat.reduceEqDiff, Int.reduceLT, Int.reduceEq, Int.reduceNeg, Int.reduceAdd, Int.reduceMul, Nat.reduceMul, ms_n, ms_i, ms_l, ms_p, PX, fxX hF1]
      refine cal_of rfl (x_next hF1 hT1 p1 p3 e1N (fun σ2 s3 f2 k2 x2 => ?_))
      rw [show decide (((1 : Int) = 1 ∨ (1 : Int) = 2) ∧ s3 = e1) = decide (s3 = e1) by simp] at x2
      have F2 : Fr cyL cyT σ σ2 := F1.trans (f2.mono rfl)
      have G2 : Fr [] tkL σ σ2 := f1.trans f2
      have hF2 := hF.fr F2 rfl
      have hT2 : TxX σ2 N t := hT.cg (F2 1 1 rfl) (F2.row 2 rfl)
      have en2 : σ2 11 4 = (n : Int) := (G2 11 4 rfl).trans hn
      have em2 : σ2 11 5 = (m : Int) := (G2 11 5 rfl).trans hm
      have er2 : σ 12 = σ2 12 := (G2.row 12 rfl).symm
      have e14 : σ2 14 = σ 14 := G2.row 14 rfl
      have hma := hD.2.2.2.2.1 a (by omega)
      have ob := cyo7 (p := a) (by omega) hma
      simp (decide := true) only [RR, ms_app, toList_some, toList_none, if_true, if_false, true_and, and_true, cond_true, sm0, sm1, sm1l, sm2, lc_lt, lc_gt, lc_eq, Int.toNat_natCast, Int.reduceToNat, Nat.reduceAdd, Nat.reduceEqDiff, Int.reduceLT, Int.reduceEq, Int.reduceNeg, Int.reduceAdd, Int.reduceMul, Nat.reduceMul, ms_n, ms_i, ms_l, ms_p, PX, fxX hF2, e14]
      refine ⟨⟨by omega, by omega⟩, ?_⟩
      refine cal_of rfl (x_partN ob.1 hF2 hT2 x2 en2 (by omega) (fun e2 b hb p4 p5 hbb => ?_) (fun k x hf => ?_))
      · have e2N := hb.1.2.2.2.1.2.1
        have hi2 := hb.1.lt
        have hbn := hb.2.1
        rw [ob.2 b (by omega)] at hbb
        have hab : b ≠ a := fun h => hbb (if_pos h)
        rw [if_neg hab] at hbb
        have hmb := hD.2.2.2.2.1 b (by omega)
        have oa := cyo7 (p := b) (by omega) hma
        have oc := cyo7 (p := a) (by omega) hmb
        simp (decide := true) only [RR, ms_app, toList_some, toList_none, if_true, if_false, true_and, and_true, cond_true, sm0, sm1, sm1l, sm2, lc_lt, lc_gt, lc_eq, Int.toNat_natCast, Int.reduceToNat, Nat.reduceAdd, Nat.reduceEqDiff, Int.reduceLT, Int.reduceEq, Int.reduceNeg, Int.reduceAdd, Int.reduceMul, Nat.reduceMul, ms_n, ms_i, ms_l, ms_p, PX]
        rw [if_neg (by omega)]
        refine At.blk rfl rfl rfl fun sx => ?_
        simp (decide := true) only [RR, ms_app, toList_some, toList_none, if_true, if_false, true_and, and_true, cond_true, sm0, sm1, sm1l, sm2, lc_lt, lc_gt, lc_eq, Int.toNat_natCast, Int.reduceToNat, Nat.reduceAdd, Nat.reduceEqDiff, Int.reduceLT, Int.reduceEq, Int.reduceNeg, Int.reduceAdd, Int.reduceMul, Nat.reduceMul, ms_n, ms_i, ms_l, ms_p, PX, fxX hF2]
        refine cal_of rfl (x_addPair hF2 en2 (by omega) han hbn hab em2 (by omega) ?_)
        rw [e14]
        simp (decide := true) only [RR, ms_app, toList_some, toList_none, if_true, if_false, true_and, and_true, cond_true, sm0, sm1, sm1l, sm2, lc_lt, lc_gt, lc_eq, Int.toNat_natCast, Int.reduceToNat, Nat.reduceAdd, Nat.reduceEqDiff, Int.reduceLT, Int.reduceEq, Int.reduceNeg, Int.reduceAdd, Int.reduceMul, Nat.reduceMul, ms_n, ms_i, ms_l, ms_p, PX, fxX hF2]
        have F3 : Fr cyL cyT σ (mj_set (mj_set (mj_set σ2 14 a (i_or (σ 14 a) (i_shl 1 (b : Int)))) 14 b (i_or (σ 14 b) (i_shl 1 (a : Int)))) 11 5 ((m + 1 : Nat) : Int)) := ((F2.set rfl).set rfl).set rfl
        have G3 : cyE (mj_set (mj_set (mj_set σ2 14 a (i_or (σ 14 a) (i_shl 1 (b : Int)))) 14 b (i_or (σ 14 b) (i_shl 1 (a : Int)))) 11 5 ((m + 1 : Nat) : Int)) (mj_set (mj_set (mj_set σ 14 a (i_or (σ 14 a) (i_shl 1 (b : Int)))) 14 b (i_or (σ 14 b) (i_shl 1 (a : Int)))) 11 5 ((m + 1 : Nat) : Int)) := (((cyE.tk G2).set).set).set
        have p4' : mj_set (mj_set (mj_set σ2 14 a (i_or (σ 14 a) (i_shl 1 (b : Int)))) 14 b (i_or (σ 14 b) (i_shl 1 (a : Int)))) 11 5 ((m + 1 : Nat) : Int) 20 1 = 1 := p4
        have p5' : mj_set (mj_set (mj_set σ2 14 a (i_or (σ 14 a) (i_shl 1 (b : Int)))) 14 b (i_or (σ 14 b) (i_shl 1 (a : Int)))) 11 5 ((m + 1 : Nat) : Int) 20 3 = (e2 : Int) := p5
        have u2 : mj_set (mj_set (mj_set σ2 14 a (i_or (σ 14 a) (i_shl 1 (b : Int)))) 14 b (i_or (σ 14 b) (i_shl 1 (a : Int)))) 11 5 ((m + 1 : Nat) : Int) 19 2 = σ 19 2 := G2 19 2 rfl
        have u3 : mj_set (mj_set (mj_set σ2 14 a (i_or (σ 14 a) (i_shl 1 (b : Int)))) 14 b (i_or (σ 14 b) (i_shl 1 (a : Int)))) 11 5 ((m + 1 : Nat) : Int) 19 3 = σ 19 3 := G2 19 3 rfl
        have D3 : cyD (mj_set (mj_set (mj_set σ 14 a (i_or (σ 14 a) (i_shl 1 (b : Int)))) 14 b (i_or (σ 14 b) (i_shl 1 (a : Int)))) 11 5 ((m + 1 : Nat) : Int)) s0 := by
          obtain ⟨d1, d2, d3, d4, d5, d6⟩ := hD
          refine ⟨d1, ⟨by show (0 : Int) ≤ ((m + 1 : Nat) : Int); omega, by show ((m + 1 : Nat) : Int) ≤ 12; omega⟩, d3, d4, fun p hp => ?_, d6⟩
          rw [ms_row (by decide), ms_app, if_pos rfl]
          by_cases c1 : p = b
          · rw [if_pos c1]; exact oc.1
          · rw [if_neg c1, ms_app, if_pos rfl]
            by_cases c2 : p = a
            · rw [if_pos c2]; exact oa.1
            · rw [if_neg c2]; exact d5 p hp
        generalize mj_set (mj_set (mj_set σ2 14 a (i_or (σ 14 a) (i_shl 1 (b : Int)))) 14 b (i_or (σ 14 b) (i_shl 1 (a : Int)))) 11 5 ((m + 1 : Nat) : Int) = σ4 at *
        have hF4 := hF.fr F3 rfl
        have hT4 : TxX σ4 N t := hT.cg (F3 1 1 rfl) (F3.row 2 rfl)
        refine cal_of rfl (x_next hF4 hT4 p4' p5' e2N (fun σ5 s5 f5 k5 x5 => ?_))
        rw [show decide (((1 : Int) = 1 ∨ (1 : Int) = 2) ∧ s5 = e2) = decide (s5 = e2) by simp] at x5
        have z1 := k1.1
        have z2 := k2.1
        have z5 := k5.1
        simp (decide := true) only [RR, ms_app, toList_some, toList_none, if_true, if_false, true_and, and_true, cond_true, sm0, sm1, sm1l, sm2, lc_lt, lc_gt, lc_eq, Int.toNat_natCast, Int.reduceToNat, Nat.reduceAdd, Nat.reduceEqDiff, Int.reduceLT, Int.reduceEq, Int.reduceNeg, Int.reduceAdd, Int.reduceMul, Nat.reduceMul, ms_n, ms_i, ms_l, ms_p, PX]
        exact h1 σ5 s5 _ (F3.trans (f5.mono rfl)) x5 (by omega) ((f5 19 2 rfl).trans u2) ((f5 19 3 rfl).trans u3) (D3.cg ((cyE.tk f5).trans G3) (by omega)) ⟨n, m, e1, a, s3, e2, b, by omega, hn, by omega, hm, ha.cg er, k2, hb.cg er2, hab, hbb, k5, rfl, (cyE.tk f5).trans G3⟩
      · simp (decide := true) only [RR, ms_app, toList_some, toList_none, if_true, if_false, true_and, and_true, cond_true, sm0, sm1, sm1l, sm2, lc_lt, lc_gt, lc_eq, Int.toNat_natCast, Int.reduceToNat, Nat.reduceAdd, Nat.reduceEqDiff, Int.reduceLT, Int.reduceEq, Int.reduceNeg, Int.reduceAdd, Int.reduceMul, Nat.reduceMul, ms_n, ms_i, ms_l, ms_p, PX]
        refine h0 _ k x ((F2.set rfl).set rfl) rfl rfl ⟨n, m, by omega, hn, by omega, hm, Or.inr ⟨by omega, Or.inr ⟨e1, a, s3, ha.cg er, k2, ?_⟩⟩⟩
        rcases hf with hf | ⟨rfl, rfl, e2, b, hb, hbb⟩
        · exact Or.inl (hf.cg er2)
        · have hbn := hb.2.1
          rw [ob.2 b (by omega)] at hbb
          refine Or.inr ⟨e2, b, hb.cg er2, rfl, rfl, ?_⟩
          by_cases cc : b = a
          · exact Or.inl cc
          · rw [if_neg cc] at hbb; exact Or.inr hbb
    · simp (decide := true) only [RR, ms_app, toList_some, toList_none, if_true, if_false, true_and, and_true, cond_true, sm0, sm1, sm1l, sm2, lc_lt, lc_gt, lc_eq, Int.toNat_natCast, Int.reduceToNat, Nat.reduceAdd, Nat.reduceEqDiff, Int.reduceLT, Int.reduceEq, Int.reduceNeg, Int.reduceAdd, Int.reduceMul, Nat.reduceMul, ms_n, ms_i, ms_l, ms_p, PX]
      refine h0 _ k x ((F1.set rfl).set rfl) rfl rfl ⟨n, m, by omega, hn, by omega, hm, Or.inr ⟨by omega, Or.inl ?_⟩⟩
      rcases hf with hf | ⟨rfl, rfl, e2, b, hb, hbb⟩
      · exact hf.cg er
      · exfalso
        have hz : ∀ j : Nat, j < 7 → bit 0 j ≠ 1 := by decide
        exact hz b (by have := hb.2.1; omega) hbb
  · rw [if_neg c]
    refine cal_of rfl (x_fail ?_)
    simp (decide := true) only [RR, ms_app, toList_some, toList_none, if_true, if_false, true_and, and_true, cond_true, sm0, sm1, sm1l, sm2, lc_lt, lc_gt, lc_eq, Int.toNat_natCast, Int.reduceToNat, Nat.reduceAdd, Nat.reduceEqDiff, Int.reduceLT, Int.reduceEq, Int.reduceNeg, Int.reduceAdd, Int.reduceMul, Nat.reduceMul, ms_n, ms_i, ms_l, ms_p, PX]
    exact h0 _ 5 s0 ((Fr.same.set rfl).set rfl) rfl rfl ⟨n, m, by omega, hn, by omega, hm, Or.inl ⟨by omega, rfl, rfl⟩⟩
end
