/-! the class's tests: what they code, and that the model goes along -/
def cT (ws : List Int) : Prop := ¬(1 ≤ ws.headD 0 ∧ ws.headD 0 ≤ 4)
def cB (ws : List Int) : Prop := cT ws ∧ ws.headD 0 ≠ 10 ∧ ws.headD 0 ≠ 12
def cA (ws : List Int) : Prop := cT ws ∧ ws.headD 0 ≠ 10 ∧ ws.headD 0 ≠ 11 ∧ ws.headD 0 ≠ 12
def TFok (N : Nat) (t : Nat → Int) (o s : Nat) (g : Bool) (s' : Nat) (g' : Bool) (cs : List Int) : Prop := ∀ (d : Nat) (K : Option mV → mM → Prop) (σ : mM) (rc ws : List Int), QT σ N t 2 s g rc ws [] o → cT ws → (∀ σ', QT σ' N t 2 s' g' (cs.reverse ++ rc) ws [] o → Fr fqL fqT σ σ' → TN d K σ') → TS d 1 K σ
def TFno (N : Nat) (t : Nat → Int) (o s : Nat) (g : Bool) (k p : Int) : Prop := k ≠ 0 ∧ ∀ (d : Nat) (K : Option mV → mM → Prop) (σ : mM) (rc ws : List Int), QT σ N t 2 s g rc ws [] o → cT ws → TB d K σ k p → TS d 1 K σ
def TBok (N : Nat) (t : Nat → Int) (o s : Nat) (g : Bool) (s' : Nat) (g' : Bool) (cs : List Int) : Prop := ∀ (d : Nat) (K : Option mV → mM → Prop) (σ : mM) (rc ws : List Int), QT σ N t 2 s g rc ws [] o → cB ws → (∀ σ' rc' p, QT σ' N t 2 s' g' rc' (p ++ ws) [] o → p.reverse ++ rc' = cs.reverse ++ rc → (∀ y ∈ p, y = 10) → Fr fqL fqT σ σ' → TG d K σ') → TS d 1 K σ
def TBno (N : Nat) (t : Nat → Int) (o s : Nat) (g : Bool) (k p : Int) : Prop := k ≠ 0 ∧ ∀ (d : Nat) (K : Option mV → mM → Prop) (σ : mM) (rc ws : List Int), QT σ N t 2 s g rc ws [] o → cB ws → TB d K σ k p → TS d 1 K σ
def TTok (N : Nat) (t : Nat → Int) (o s : Nat) (g : Bool) (s' : Nat) (g' : Bool) (cs : List Int) : Prop := ∀ (d : Nat) (K : Option mV → mM → Prop) (σ : mM) (rc ws : List Int), QT σ N t 2 s g rc ws [] o → cA ws → (∀ σ' rc' p, QT σ' N t 2 s' g' rc' (p ++ ws) [] o → p.reverse ++ rc' = cs.reverse ++ rc → (∀ y ∈ p, y = 10 ∨ y = 11) → Fr fqL fqT σ σ' → TG d K σ') → TS d 1 K σ
def TTno (N : Nat) (t : Nat → Int) (o s : Nat) (g : Bool) (k p : Int) : Prop := k ≠ 0 ∧ ∀ (d : Nat) (K : Option mV → mM → Prop) (σ : mM) (rc ws : List Int), QT σ N t 2 s g rc ws [] o → cA ws → TB d K σ k p → TS d 1 K σ
def CdT (cs : List Int) : Prop := ∀ c ∈ cs, CdS 2 [c] ∨ (7 ≤ c ∧ c ≤ 13)
theorem CdT.app {a b : List Int} (ha : CdT a) (hb : CdT b) : CdT (a ++ b) := fun c hc => by
  rcases List.mem_append.mp hc with h | h
  · exact ha c h
  · exact hb c h
theorem CdS.tst {a : List Int} (h : CdS 2 a) : CdT a := fun c hc => Or.inl (fun x hx => by rw [List.mem_singleton] at hx; subst hx; exact h x hc)
theorem CdT.sing {c : Int} (h : 7 ≤ c ∧ c ≤ 13) : CdT [c] := fun x hx => by rw [List.mem_singleton] at hx; subst hx; exact Or.inr h
def tAF (N : Nat) (t : Nat → Int) (o : Nat) (s : Nat) (g : Bool) (s' : Nat) (g' : Bool) (cs : List Int) : Prop := TyS true (22 - 3 * o) cs ∧ CdT cs ∧ TFok N t o s g s' g' cs
def tAB (N : Nat) (t : Nat → Int) (o : Nat) (s : Nat) (g : Bool) (s' : Nat) (g' : Bool) (cs : List Int) : Prop := TyS true (23 - 3 * o) cs ∧ CdT cs ∧ TBok N t o s g s' g' cs ∧ ∀ e, ¬IsWd N t s' g' e 19
def tAT (N : Nat) (t : Nat → Int) (o : Nat) (s : Nat) (g : Bool) (s' : Nat) (g' : Bool) (cs : List Int) : Prop := TyS true (24 - 3 * o) cs ∧ CdT cs ∧ TTok N t o s g s' g' cs ∧ (∀ e, ¬IsWd N t s' g' e 19) ∧ ∀ e, ¬IsWd N t s' g' e 18
def eT (o : Nat) : Nat := 13 + 4 * (7 - o)
def eB (o : Nat) : Nat := 12 + 4 * (7 - o)
def eF (o : Nat) : Nat := 11 + 4 * (7 - o)
def YF (N : Nat) (t : Nat → Int) (o : Nat) : Prop := XSp 55 (eF o) N t 3 o (tAF N t o) (TFno N t o)
def YB (N : Nat) (t : Nat → Int) (o : Nat) : Prop := XSp 54 (eB o) N t 3 o (tAB N t o) (TBno N t o)
def YT (N : Nat) (t : Nat → Int) (o : Nat) : Prop := XSp 53 (eT o) N t 3 o (tAT N t o) (TTno N t o)
theorem tyC_cmp {v : Int} (hv : 7 ≤ v ∧ v ≤ 9) (ts : List Bool) : tyC v (false :: false :: ts) = some (true :: ts) := by
  unfold tyC
  rw [if_neg (by omega), if_neg (by omega), if_neg (by omega), if_neg (by omega), if_neg (by omega), if_neg (by omega), if_pos hv]
  simp [ty2]
theorem tyC_ao {v : Int} (hv : 10 ≤ v ∧ v ≤ 11) (ts : List Bool) : tyC v (true :: true :: ts) = some (true :: ts) := by
  unfold tyC
  rw [if_neg (by omega), if_neg (by omega), if_neg (by omega), if_neg (by omega), if_neg (by omega), if_neg (by omega), if_neg (by omega), if_pos hv]
  simp [ty2]
section
variable {d : Nat} {σ : mM} {K : Option mV → mM → Prop} {N : Nat} {t : Nat → Int} {o s : Nat} {g : Bool}
theorem x_compareStep (hF : Fix σ) (hT : TxX σ N t) (hX : TX σ N t s g) (h1 : ∀ c u v : Int, (c = 60 ∧ u = 18 ∧ v = 7 ∨ c = 62 ∧ u = 19 ∧ v = 8 ∨ c = 61 ∧ u = 20 ∧ v = 9) → IsSg N t s c → σ 20 1 = 3 → σ 20 3 = ((s + 1 : Nat) : Int) → K (some (.inl u)) σ) (h0 : ¬IsSg N t s 60 → ¬IsSg N t s 62 → ¬IsSg N t s 61 → K (some (.inl (-1))) σ) : Mt (d + 2) 61 [.inr (.inr 19)] σ K := by
  refine Mt.go (lv := [some (.inr (.inr 19))]) rfl rfl rfl ?_
  refine At.blk rfl rfl rfl fun sx => ?_
  simp (decide := true) only [RR, ms_app, toList_some, toList_none, if_true, if_false, true_and, and_true, cond_true, sm0, sm1, sm1l, sm2, lc_lt, lc_gt, lc_eq, Int.toNat_natCast, Int.reduceToNat, Nat.reduceAdd, Nat.reduceEqDiff, Int.reduceLT, Int.reduceEq, Int.reduceNeg, Int.reduceAdd, Int.reduceMul, Nat.reduceMul, ms_n, ms_i, ms_l, ms_p, PX, fxX hF]
  refine cal_of rfl (x_isSign hF hT (by unfold sgn; omega) hX (fun hi q1 q3 => ?_) (fun n60 => ?_))
  · simp (decide := true) only [RR, ms_app, toList_some, toList_none, if_true, if_false, true_and, and_true, cond_true, sm0, sm1, sm1l, sm2, lc_lt, lc_gt, lc_eq, Int.toNat_natCast, Int.reduceToNat, Nat.reduceAdd, Nat.reduceEqDiff, Int.reduceLT, Int.reduceEq, Int.reduceNeg, Int.reduceAdd, Int.reduceMul, Nat.reduceMul, ms_n, ms_i, ms_l, ms_p, PX]
    exact h1 60 18 7 (by omega) hi q1 q3
  · simp (decide := true) only [RR, ms_app, toList_some, toList_none, if_true, if_false, true_and, and_true, cond_true, sm0, sm1, sm1l, sm2, lc_lt, lc_gt, lc_eq, Int.toNat_natCast, Int.reduceToNat, Nat.reduceAdd, Nat.reduceEqDiff, Int.reduceLT, Int.reduceEq, Int.reduceNeg, Int.reduceAdd, Int.reduceMul, Nat.reduceMul, ms_n, ms_i, ms_l, ms_p, PX]
    refine At.blk rfl rfl rfl fun sx => ?_
    simp (decide := true) only [RR, ms_app, toList_some, toList_none, if_true, if_false, true_and, and_true, cond_true, sm0, sm1, sm1l, sm2, lc_lt, lc_gt, lc_eq, Int.toNat_natCast, Int.reduceToNat, Nat.reduceAdd, Nat.reduceEqDiff, Int.reduceLT, Int.reduceEq, Int.reduceNeg, Int.reduceAdd, Int.reduceMul, Nat.reduceMul, ms_n, ms_i, ms_l, ms_p, PX, fxX hF]
    refine cal_of rfl (x_isSign hF hT (by unfold sgn; omega) hX (fun hi q1 q3 => ?_) (fun n62 => ?_))
    · simp (decide := true) only [RR, ms_app, toList_some, toList_none, if_true, if_false, true_and, and_true, cond_true, sm0, sm1, sm1l, sm2, lc_lt, lc_gt, lc_eq, Int.toNat_natCast, Int.reduceToNat, Nat.reduceAdd, Nat.reduceEqDiff, Int.reduceLT, Int.reduceEq, Int.reduceNeg, Int.reduceAdd, Int.reduceMul, Nat.reduceMul, ms_n, ms_i, ms_l, ms_p, PX]
      exact h1 62 19 8 (by omega) hi q1 q3
    · simp (decide := true) only [RR, ms_app, toList_some, toList_none, if_true, if_false, true_and, and_true, cond_true, sm0, sm1, sm1l, sm2, lc_lt, lc_gt, lc_eq, Int.toNat_natCast, Int.reduceToNat, Nat.reduceAdd, Nat.reduceEqDiff, Int.reduceLT, Int.reduceEq, Int.reduceNeg, Int.reduceAdd, Int.reduceMul, Nat.reduceMul, ms_n, ms_i, ms_l, ms_p, PX]
      refine At.blk rfl rfl rfl fun sx => ?_
      simp (decide := true) only [RR, ms_app, toList_some, toList_none, if_true, if_false, true_and, and_true, cond_true, sm0, sm1, sm1l, sm2, lc_lt, lc_gt, lc_eq, Int.toNat_natCast, Int.reduceToNat, Nat.reduceAdd, Nat.reduceEqDiff, Int.reduceLT, Int.reduceEq, Int.reduceNeg, Int.reduceAdd, Int.reduceMul, Nat.reduceMul, ms_n, ms_i, ms_l, ms_p, PX, fxX hF]
      refine cal_of rfl (x_isSign hF hT (by unfold sgn; omega) hX (fun hi q1 q3 => ?_) (fun n61 => ?_))
      · simp (decide := true) only [RR, ms_app, toList_some, toList_none, if_true, if_false, true_and, and_true, cond_true, sm0, sm1, sm1l, sm2, lc_lt, lc_gt, lc_eq, Int.toNat_natCast, Int.reduceToNat, Nat.reduceAdd, Nat.reduceEqDiff, Int.reduceLT, Int.reduceEq, Int.reduceNeg, Int.reduceAdd, Int.reduceMul, Nat.reduceMul, ms_n, ms_i, ms_l, ms_p, PX]
        refine At.blk rfl rfl rfl fun sx => ?_
        simp (decide := true) only [RR, ms_app, toList_some, toList_none, if_true, if_false, true_and, and_true, cond_true, sm0, sm1, sm1l, sm2, lc_lt, lc_gt, lc_eq, Int.toNat_natCast, Int.reduceToNat, Nat.reduceAdd, Nat.reduceEqDiff, Int.reduceLT, Int.reduceEq, Int.reduceNeg, Int.reduceAdd, Int.reduceMul, Nat.reduceMul, ms_n, ms_i, ms_l, ms_p, PX]
        exact h1 61 20 9 (by omega) hi q1 q3
      · simp (decide := true) only [RR, ms_app, toList_some, toList_none, if_true, if_false, true_and, and_true, cond_true, sm0, sm1, sm1l, sm2, lc_lt, lc_gt, lc_eq, Int.toNat_natCast, Int.reduceToNat, Nat.reduceAdd, Nat.reduceEqDiff, Int.reduceLT, Int.reduceEq, Int.reduceNeg, Int.reduceAdd, Int.reduceMul, Nat.reduceMul, ms_n, ms_i, ms_l, ms_p, PX]
        refine At.blk rfl rfl rfl fun sx => ?_
        simp (decide := true) only [RR, ms_app, toList_some, toList_none, if_true, if_false, true_and, and_true, cond_true, sm0, sm1, sm1l, sm2, lc_lt, lc_gt, lc_eq, Int.toNat_natCast, Int.reduceToNat, Nat.reduceAdd, Nat.reduceEqDiff, Int.reduceLT, Int.reduceEq, Int.reduceNeg, Int.reduceAdd, Int.reduceMul, Nat.reduceMul, ms_n, ms_i, ms_l, ms_p, PX]
        refine At.blk rfl rfl rfl fun sx => ?_
        simp (decide := true) only [RR, ms_app, toList_some, toList_none, if_true, if_false, true_and, and_true, cond_true, sm0, sm1, sm1l, sm2, lc_lt, lc_gt, lc_eq, Int.toNat_natCast, Int.reduceToNat, Nat.reduceAdd, Nat.reduceEqDiff, Int.reduceLT, Int.reduceEq, Int.reduceNeg, Int.reduceAdd, Int.reduceMul, Nat.reduceMul, ms_n, ms_i, ms_l, ms_p, PX]
        exact h0 n60 n62 n61
theorem YF.both (h : YF N t o) (ho : o ≤ 6) : YB N t o := by
  intro D σ K s g L hD hF hT hX hL hLN h5 hK1 hK0
  unfold eB at hD
  obtain ⟨d, rfl⟩ : ∃ d, D = d + 4 := ⟨D - 4, by omega⟩
  have n16 := hT.2.1
  have sN := hX.le
  refine Mt.go (lv := [some (.inr (.inr 19)), some (.inl (o : Int)), none]) rfl rfl rfl ?_
  refine At.blk rfl rfl rfl fun sx => ?_
  simp (decide := true) only [RR, ms_app, toList_some, toList_none, if_true, if_false, true_and, and_true, cond_true, sm0, sm1, sm1l, sm2, lc_lt, lc_gt, lc_eq, Int.toNat_natCast, Int.reduceToNat, Nat.reduceAdd, Nat.reduceEqDiff, Int.reduceLT, Int.reduceEq, Int.reduceNeg, Int.reduceAdd, Int.reduceMul, Nat.reduceMul, ms_n, ms_i, ms_l, ms_p, PX]
  refine cal_of rfl (h (d + 3) σ _ s g L (by unfold eF; omega) hF hT hX hL hLN h5 (fun σ1 s1 g1 cs f1 x1 hs1 hc1 a1 hA => ?_) (fun σ1 k p f1 e1 e2 hB => ?_))
  · obtain ⟨ty1, cd1, sf1⟩ := hA
    simp (decide := true) only [RR, ms_app, toList_some, toList_none, if_true, if_false, true_and, and_true, cond_true, sm0, sm1, sm1l, sm2, lc_lt, lc_gt, lc_eq, Int.toNat_natCast, Int.reduceToNat, Nat.reduceAdd, Nat.reduceEqDiff, Int.reduceLT, Int.reduceEq, Int.reduceNeg, Int.reduceAdd, Int.reduceMul, Nat.reduceMul, ms_n, ms_i, ms_l, ms_p, PX]
    refine At.blk rfl rfl rfl fun sx => ?_
    simp (decide := true) only [RR, ms_app, toList_some, toList_none, if_true, if_false, true_and, and_true, cond_true, sm0, sm1, sm1l, sm2, lc_lt, lc_gt, lc_eq, Int.toNat_natCast, Int.reduceToNat, Nat.reduceAdd, Nat.reduceEqDiff, Int.reduceLT, Int.reduceEq, Int.reduceNeg, Int.reduceAdd, Int.reduceMul, Nat.reduceMul, ms_n, ms_i, ms_l, ms_p, PX]
    have sp1 : TBok N t o s g s1 g1 cs := by
      intro d K σ rc ws q cx hfin
      exact sf1 d K σ rc ws q cx.1 (fun σ' q' f' => TN_end q' cx.2.2 (hfin σ' _ [] q' rfl (fun y hy => by cases hy) f'))
    have loop : ∀ (m : Nat) (k : Nat) (σ' : mM) (s' : Nat) (g' : Bool) (cs : List Int), N - s' = m → k + s < s' → Fr xqL xqT σ σ' → TX σ' N t s' g' → cs.length ≤ s' - s → ApX L σ σ' cs → TyS true (23 - 3 * o) cs → CdT cs → TBok N t o s g s' g' cs → At (d + 3) 54 2 [some (.inr (.inr 19)), some (.inl (o : Int)), some (.inl (k : Int))] [] σ' K := by
      intro m
      induction m using Nat.strongRecOn with
      | ind m ih =>
        intro k σ' s' g' cs hm hk f x hc a ty cd sp
        have hF' := hF.fr f rfl
        have hT' : TxX σ' N t := hT.cg (f 1 1 rfl) (f.row 2 rfl)
        have s'N := x.le
        refine At.blk rfl rfl rfl fun sx => ?_
        simp (decide := true) only [RR, ms_app, toList_some, toList_none, if_true, if_false, true_and, and_true, cond_true, sm0, sm1, sm1l, sm2, lc_lt, lc_gt, lc_eq, Int.toNat_natCast, Int.reduceToNat, Nat.reduceAdd, Nat.reduceEqDiff, Int.reduceLT, Int.reduceEq, Int.reduceNeg, Int.reduceAdd, Int.reduceMul, Nat.reduceMul, ms_n, ms_i, ms_l, ms_p, PX, fxX hF']
        rw [if_pos (by omega)]
        refine cal_of rfl (x_isWord (w := 19) (by decide) x (fun e hi q1 q3 => ?_) (fun nw => ?_))
        · have hlt := hi.lt (by decide)
          have e27 := hi.2.2.2.1.2.1
          simp (decide := true) only [RR, ms_app, toList_some, toList_none, if_true, if_false, true_and, and_true, cond_true, sm0, sm1, sm1l, sm2, lc_lt, lc_gt, lc_eq, Int.toNat_natCast, Int.reduceToNat, Nat.reduceAdd, Nat.reduceEqDiff, Int.reduceLT, Int.reduceEq, Int.reduceNeg, Int.reduceAdd, Int.reduceMul, Nat.reduceMul, ms_n, ms_i, ms_l, ms_p, PX, fxX hF']
          refine cal_of rfl (x_next hF' hT' q1 q3 e27 (fun σ2 s2 f2 k2 x2 => ?_))
          rw [show decide (((1 : Int) = 1 ∨ (1 : Int) = 2) ∧ s2 = e) = decide (s2 = e) by simp] at x2
          have k21 := k2.1
          have F2 : Fr xqL xqT σ σ2 := f.trans f2.tkq
          have hF2 := hF.fr F2 rfl
          have hT2 : TxX σ2 N t := hT.cg (F2 1 1 rfl) (F2.row 2 rfl)
          have a2 : ApX L σ σ2 cs := a.mv (f2.mono rfl)
          have h52 : σ2 19 5 = 3 := (F2 19 5 rfl).trans h5
          simp (decide := true) only [RR, ms_app, toList_some, toList_none, if_true, if_false, true_and, and_true, cond_true, sm0, sm1, sm1l, sm2, lc_lt, lc_gt, lc_eq, Int.toNat_natCast, Int.reduceToNat, Nat.reduceAdd, Nat.reduceEqDiff, Int.reduceLT, Int.reduceEq, Int.reduceNeg, Int.reduceAdd, Int.reduceMul, Nat.reduceMul, ms_n, ms_i, ms_l, ms_p, PX]
          refine cal_of rfl (h (d + 3) σ2 _ s2 (decide (s2 = e)) (L + cs.length) (by unfold eF; omega) hF2 hT2 x2 a2.1 (by omega) h52 (fun σ3 s3 g3 cs3 f3 x3 hs3 hc3 a3 hA3 => ?_) (fun σ3 kk pp f3 e3 e4 hB3 => ?_))
          · obtain ⟨ty3, cd3, sf3⟩ := hA3
            have F3 := F2.trans f3
            have hF3 := hF.fr F3 rfl
            have A3 := a2.trans a3
            have s3N := x3.le
            have w1 : Unit → w32 ((k : Int) + 1) = ((k + 1 : Nat) : Int) := fun _ => by rw [w32_small (by omega) (by omega)]; omega
            have hst : StepR 21 10 := Or.inr (Or.inr (Or.inr (Or.inr (Or.inr ⟨21, by omega, rfl, by omega⟩))))
            simp (decide := true) only [RR, ms_app, toList_some, toList_none, if_true, if_false, true_and, and_true, cond_true, sm0, sm1, sm1l, sm2, lc_lt, lc_gt, lc_eq, Int.toNat_natCast, Int.reduceToNat, Nat.reduceAdd, Nat.reduceEqDiff, Int.reduceLT, Int.reduceEq, Int.reduceNeg, Int.reduceAdd, Int.reduceMul, Nat.reduceMul, ms_n, ms_i, ms_l, ms_p, PX]
            refine At.blk rfl rfl rfl fun sx => ?_
            simp (decide := true) only [RR, ms_app, toList_some, toList_none, if_true, if_false, true_and, and_true, cond_true, sm0, sm1, sm1l, sm2, lc_lt, lc_gt, lc_eq, Int.toNat_natCast, Int.reduceToNat, Nat.reduceAdd, Nat.reduceEqDiff, Int.reduceLT, Int.reduceEq, Int.reduceNeg, Int.reduceAdd, Int.reduceMul, Nat.reduceMul, ms_n, ms_i, ms_l, ms_p, PX, fxX hF3]
            refine cal_of rfl (x_addStep (L := L + (cs ++ cs3).length) hF3 A3.1 (by rw [List.length_append]; omega) (step_op 21 (by decide)) ?_)
            simp (decide := true) only [RR, ms_app, toList_some, toList_none, if_true, if_false, true_and, and_true, cond_true, sm0, sm1, sm1l, sm2, lc_lt, lc_gt, lc_eq, Int.toNat_natCast, Int.reduceToNat, Nat.reduceAdd, Nat.reduceEqDiff, Int.reduceLT, Int.reduceEq, Int.reduceNeg, Int.reduceAdd, Int.reduceMul, Nat.reduceMul, ms_n, ms_i, ms_l, ms_p, PX, w1 ()]
            have F4 : Fr xqL xqT σ (mj_set (mj_set σ3 16 (L + (cs ++ cs3).length) 21) 15 3 ((L + (cs ++ cs3).length + 1 : Nat) : Int)) := (F3.setr rfl).set rfl
            refine ih (N - s3) (by omega) (k + 1) _ s3 g3 (cs ++ cs3 ++ [10]) rfl (by omega) F4 (x3.cg rfl) (by simp only [List.length_append, List.length_singleton]; omega) (A3.push hst) ?_ ?_ ?_
            · exact ty.lop ty3 (by omega) (tyC_ao (v := 10) (by decide))
            · exact (cd.app cd3).app (CdT.sing (by decide))
            · intro d K σ rc ws q cx hfin
              refine sp d K σ rc ws q cx (fun σa rca pa qa ea ha fa => ?_)
              refine TG_and (p := pa) ha (fun y hy => by rw [hy]; exact cx.2.1) qa hi (fun σb sb qb kb fb => ?_)
              obtain rfl := k2.uniq kb
              refine sf3 d K σb _ _ qb (fun h => by have h : 1 ≤ (10 : Int) ∧ (10 : Int) ≤ 4 := h; omega) (fun σc qc fc => ?_)
              refine TN_end qc (by show (10 : Int) ≠ 12; decide) ?_
              refine hfin σc (cs3.reverse ++ (pa.reverse ++ rca)) [10] qc ?_ (fun y hy => by rw [List.mem_singleton] at hy; exact hy) ((fa.trans fb).trans fc)
              rw [ea]
              simp [List.append_assoc]
          · simp (decide := true) only [RR, ms_app, toList_some, toList_none, if_true, if_false, true_and, and_true, cond_true, sm0, sm1, sm1l, sm2, lc_lt, lc_gt, lc_eq, Int.toNat_natCast, Int.reduceToNat, Nat.reduceAdd, Nat.reduceEqDiff, Int.reduceLT, Int.reduceEq, Int.reduceNeg, Int.reduceAdd, Int.reduceMul, Nat.reduceMul, ms_n, ms_i, ms_l, ms_p, PX]
            refine hK0 σ3 kk pp (F2.trans f3) e3 e4 ⟨hB3.1, fun d K σ rc ws q cx hq => ?_⟩
            refine sp d K σ rc ws q cx (fun σa rca pa qa ea ha fa => ?_)
            refine TG_and (p := pa) ha (fun y hy => by rw [hy]; exact cx.2.1) qa hi (fun σb sb qb kb fb => ?_)
            obtain rfl := k2.uniq kb
            exact hB3.2 d K σb _ _ qb (fun h => by have h : 1 ≤ (10 : Int) ∧ (10 : Int) ≤ 4 := h; omega) (hq.go (fa.trans fb))
        · simp (decide := true) only [RR, ms_app, toList_some, toList_none, if_true, if_false, true_and, and_true, cond_true, sm0, sm1, sm1l, sm2, lc_lt, lc_gt, lc_eq, Int.toNat_natCast, Int.reduceToNat, Nat.reduceAdd, Nat.reduceEqDiff, Int.reduceLT, Int.reduceEq, Int.reduceNeg, Int.reduceAdd, Int.reduceMul, Nat.reduceMul, ms_n, ms_i, ms_l, ms_p, PX]
          refine At.blk rfl rfl rfl fun sx => ?_
          simp (decide := true) only [RR, ms_app, toList_some, toList_none, if_true, if_false, true_and, and_true, cond_true, sm0, sm1, sm1l, sm2, lc_lt, lc_gt, lc_eq, Int.toNat_natCast, Int.reduceToNat, Nat.reduceAdd, Nat.reduceEqDiff, Int.reduceLT, Int.reduceEq, Int.reduceNeg, Int.reduceAdd, Int.reduceMul, Nat.reduceMul, ms_n, ms_i, ms_l, ms_p, PX]
          exact hK1 σ' s' g' cs f x (by omega) hc a ⟨ty, cd, sp, nw⟩
    exact loop (N - s1) 0 σ1 s1 g1 cs rfl (by omega) f1 x1 hc1 a1 (ty1.mono (by omega)) cd1 sp1
  · simp (decide := true) only [RR, ms_app, toList_some, toList_none, if_true, if_false, true_and, and_true, cond_true, sm0, sm1, sm1l, sm2, lc_lt, lc_gt, lc_eq, Int.toNat_natCast, Int.reduceToNat, Nat.reduceAdd, Nat.reduceEqDiff, Int.reduceLT, Int.reduceEq, Int.reduceNeg, Int.reduceAdd, Int.reduceMul, Nat.reduceMul, ms_n, ms_i, ms_l, ms_p, PX]
    refine hK0 σ1 k p f1 e1 e2 ⟨hB.1, fun d K σ rc ws q cx hq => ?_⟩
    exact hB.2 d K σ rc ws q cx.1 hq
theorem YB.test (h : YB N t o) (ho : o ≤ 6) : YT N t o := by
  intro D σ K s g L hD hF hT hX hL hLN h5 hK1 hK0
  unfold eT at hD
  obtain ⟨d, rfl⟩ : ∃ d, D = d + 4 := ⟨D - 4, by omega⟩
  have n16 := hT.2.1
  have sN := hX.le
  refine Mt.go (lv := [some (.inr (.inr 19)), some (.inl (o : Int)), none]) rfl rfl rfl ?_
  refine At.blk rfl rfl rfl fun sx => ?_
  simp (decide := true) only [RR, ms_app, toList_some, toList_none, if_true, if_false, true_and, and_true, cond_true, sm0, sm1, sm1l, sm2, lc_lt, lc_gt, lc_eq, Int.toNat_natCast, Int.reduceToNat, Nat.reduceAdd, Nat.reduceEqDiff, Int.reduceLT, Int.reduceEq, Int.reduceNeg, Int.reduceAdd, Int.reduceMul, Nat.reduceMul, ms_n, ms_i, ms_l, ms_p, PX]
  refine cal_of rfl (h (d + 3) σ _ s g L (by unfold eB; omega) hF hT hX hL hLN h5 (fun σ1 s1 g1 cs f1 x1 hs1 hc1 a1 hA => ?_) (fun σ1 k p f1 e1 e2 hB => ?_))
  · obtain ⟨ty1, cd1, sf1, na1⟩ := hA
    simp (decide := true) only [RR, ms_app, toList_some, toList_none, if_true, if_false, true_and, and_true, cond_true, sm0, sm1, sm1l, sm2, lc_lt, lc_gt, lc_eq, Int.toNat_natCast, Int.reduceToNat, Nat.reduceAdd, Nat.reduceEqDiff, Int.reduceLT, Int.reduceEq, Int.reduceNeg, Int.reduceAdd, Int.reduceMul, Nat.reduceMul, ms_n, ms_i, ms_l, ms_p, PX]
    refine At.blk rfl rfl rfl fun sx => ?_
    simp (decide := true) only [RR, ms_app, toList_some, toList_none, if_true, if_false, true_and, and_true, cond_true, sm0, sm1, sm1l, sm2, lc_lt, lc_gt, lc_eq, Int.toNat_natCast, Int.reduceToNat, Nat.reduceAdd, Nat.reduceEqDiff, Int.reduceLT, Int.reduceEq, Int.reduceNeg, Int.reduceAdd, Int.reduceMul, Nat.reduceMul, ms_n, ms_i, ms_l, ms_p, PX]
    have sp1 : TTok N t o s g s1 g1 cs := by
      intro d K σ rc ws q cx hfin
      exact sf1 d K σ rc ws q ⟨cx.1, cx.2.1, cx.2.2.2⟩ (fun σ' rc' p q' e' hp f' => hfin σ' rc' p q' e' (fun y hy => Or.inl (hp y hy)) f')
    have loop : ∀ (m : Nat) (k : Nat) (σ' : mM) (s' : Nat) (g' : Bool) (cs : List Int), N - s' = m → k + s < s' → Fr xqL xqT σ σ' → TX σ' N t s' g' → cs.length ≤ s' - s → ApX L σ σ' cs → TyS true (24 - 3 * o) cs → (∀ e, ¬IsWd N t s' g' e 19) → CdT cs → TTok N t o s g s' g' cs → At (d + 3) 53 2 [some (.inr (.inr 19)), some (.inl (o : Int)), some (.inl (k : Int))] [] σ' K := by
      intro m
      induction m using Nat.strongRecOn with
      | ind m ih =>
        intro k σ' s' g' cs hm hk f x hc a ty na cd sp
        have hF' := hF.fr f rfl
        have hT' : TxX σ' N t := hT.cg (f 1 1 rfl) (f.row 2 rfl)
        have s'N := x.le
        refine At.blk rfl rfl rfl fun sx => ?_
        simp (decide := true) only [RR, ms_app, toList_some, toList_none, if_true, if_false, true_and, and_true, cond_true, sm0, sm1, sm1l, sm2, lc_lt, lc_gt, lc_eq, Int.toNat_natCast, Int.reduceToNat, Nat.reduceAdd, Nat.reduceEqDiff, Int.reduceLT, Int.reduceEq, Int.reduceNeg, Int.reduceAdd, Int.reduceMul, Nat.reduceMul, ms_n, ms_i, ms_l, ms_p, PX, fxX hF']
        rw [if_pos (by omega)]
        refine cal_of rfl (x_isWord (w := 18) (by decide) x (fun e hi q1 q3 => ?_) (fun nw => ?_))
        · have hlt := hi.lt (by decide)
          have e27 := hi.2.2.2.1.2.1
          simp (decide := true) only [RR, ms_app, toList_some, toList_none, if_true, if_false, true_and, and_true, cond_true, sm0, sm1, sm1l, sm2, lc_lt, lc_gt, lc_eq, Int.toNat_natCast, Int.reduceToNat, Nat.reduceAdd, Nat.reduceEqDiff, Int.reduceLT, Int.reduceEq, Int.reduceNeg, Int.reduceAdd, Int.reduceMul, Nat.reduceMul, ms_n, ms_i, ms_l, ms_p, PX, fxX hF']
          refine cal_of rfl (x_next hF' hT' q1 q3 e27 (fun σ2 s2 f2 k2 x2 => ?_))
          rw [show decide (((1 : Int) = 1 ∨ (1 : Int) = 2) ∧ s2 = e) = decide (s2 = e) by simp] at x2
          have k21 := k2.1
          have F2 : Fr xqL xqT σ σ2 := f.trans f2.tkq
          have hF2 := hF.fr F2 rfl
          have hT2 : TxX σ2 N t := hT.cg (F2 1 1 rfl) (F2.row 2 rfl)
          have a2 : ApX L σ σ2 cs := a.mv (f2.mono rfl)
          have h52 : σ2 19 5 = 3 := (F2 19 5 rfl).trans h5
          simp (decide := true) only [RR, ms_app, toList_some, toList_none, if_true, if_false, true_and, and_true, cond_true, sm0, sm1, sm1l, sm2, lc_lt, lc_gt, lc_eq, Int.toNat_natCast, Int.reduceToNat, Nat.reduceAdd, Nat.reduceEqDiff, Int.reduceLT, Int.reduceEq, Int.reduceNeg, Int.reduceAdd, Int.reduceMul, Nat.reduceMul, ms_n, ms_i, ms_l, ms_p, PX]
          refine cal_of rfl (h (d + 3) σ2 _ s2 (decide (s2 = e)) (L + cs.length) (by unfold eB; omega) hF2 hT2 x2 a2.1 (by omega) h52 (fun σ3 s3 g3 cs3 f3 x3 hs3 hc3 a3 hA3 => ?_) (fun σ3 kk pp f3 e3 e4 hB3 => ?_))
          · obtain ⟨ty3, cd3, sf3, na3⟩ := hA3
            have F3 := F2.trans f3
            have hF3 := hF.fr F3 rfl
            have A3 := a2.trans a3
            have s3N := x3.le
            have w1 : Unit → w32 ((k : Int) + 1) = ((k + 1 : Nat) : Int) := fun _ => by rw [w32_small (by omega) (by omega)]; omega
            have hst : StepR 22 11 := Or.inr (Or.inr (Or.inr (Or.inr (Or.inr ⟨22, by omega, rfl, by omega⟩))))
            simp (decide := true) only [RR, ms_app, toList_some, toList_none, if_true, if_false, true_and, and_true, cond_true, sm0, sm1, sm1l, sm2, lc_lt, lc_gt, lc_eq, Int.toNat_natCast, Int.reduceToNat, Nat.reduceAdd, Nat.reduceEqDiff, Int.reduceLT, Int.reduceEq, Int.reduceNeg, Int.reduceAdd, Int.reduceMul, Nat.reduceMul, ms_n, ms_i, ms_l, ms_p, PX]
            refine At.blk rfl rfl rfl fun sx => ?_
            simp (decide := true) only [RR, ms_app, toList_some, toList_none, if_true, if_false, true_and, and_true, cond_true, sm0, sm1, sm1l, sm2, lc_lt, lc_gt, lc_eq, Int.toNat_natCast, Int.reduceToNat, Nat.reduceAdd, Nat.reduceEqDiff, Int.reduceLT, Int.reduceEq, Int.reduceNeg, Int.reduceAdd, Int.reduceMul, Nat.reduceMul, ms_n, ms_i, ms_l, ms_p, PX, fxX hF3]
            refine cal_of rfl (x_addStep (L := L + (cs ++ cs3).length) hF3 A3.1 (by rw [List.length_append]; omega) (step_op 22 (by decide)) ?_)
            simp (decide := true) only [RR, ms_app, toList_some, toList_none, if_true, if_false, true_and, and_true, cond_true, sm0, sm1, sm1l, sm2, lc_lt, lc_gt, lc_eq, Int.toNat_natCast, Int.reduceToNat, Nat.reduceAdd, Nat.reduceEqDiff, Int.reduceLT, Int.reduceEq, Int.reduceNeg, Int.reduceAdd, Int.reduceMul, Nat.reduceMul, ms_n, ms_i, ms_l, ms_p, PX, w1 ()]
            have F4 : Fr xqL xqT σ (mj_set (mj_set σ3 16 (L + (cs ++ cs3).length) 22) 15 3 ((L + (cs ++ cs3).length + 1 : Nat) : Int)) := (F3.setr rfl).set rfl
            refine ih (N - s3) (by omega) (k + 1) _ s3 g3 (cs ++ cs3 ++ [11]) rfl (by omega) F4 (x3.cg rfl) (by simp only [List.length_append, List.length_singleton]; omega) (A3.push hst) ?_ na3 ?_ ?_
            · exact ty.lop ty3 (by omega) (tyC_ao (v := 11) (by decide))
            · exact (cd.app cd3).app (CdT.sing (by decide))
            · intro d K σ rc ws q cx hfin
              refine sp d K σ rc ws q cx (fun σa rca pa qa ea ha fa => ?_)
              refine TG_or (p := pa) ha (fun y hy => by have h1 := cx.2.1; have h2 := cx.2.2.1; rcases hy with rfl | rfl <;> assumption) qa hi (fun σb sb qb kb fb => ?_)
              obtain rfl := k2.uniq kb
              refine sf3 d K σb _ _ qb ⟨fun h => by have h : 1 ≤ (11 : Int) ∧ (11 : Int) ≤ 4 := h; omega, by show (11 : Int) ≠ 10; decide, by show (11 : Int) ≠ 12; decide⟩ (fun σc rcc pc qc ec hc fc => ?_)
              refine hfin σc rcc (pc ++ [11]) (by rw [List.append_assoc]; exact qc) ?_ (fun y hy => ?_) ((fa.trans fb).trans fc)
              · rw [List.reverse_append]
                show [11] ++ pc.reverse ++ rcc = _
                rw [List.append_assoc, ec, ea]
                simp [List.append_assoc]
              · rcases List.mem_append.mp hy with hy | hy
                · exact Or.inl (hc y hy)
                · rw [List.mem_singleton] at hy; exact Or.inr hy
          · simp (decide := true) only [RR, ms_app, toList_some, toList_none, if_true, if_false, true_and, and_true, cond_true, sm0, sm1, sm1l, sm2, lc_lt, lc_gt, lc_eq, Int.toNat_natCast, Int.reduceToNat, Nat.reduceAdd, Nat.reduceEqDiff, Int.reduceLT, Int.reduceEq, Int.reduceNeg, Int.reduceAdd, Int.reduceMul, Nat.reduceMul, ms_n, ms_i, ms_l, ms_p, PX]
            refine hK0 σ3 kk pp (F2.trans f3) e3 e4 ⟨hB3.1, fun d K σ rc ws q cx hq => ?_⟩
            refine sp d K σ rc ws q cx (fun σa rca pa qa ea ha fa => ?_)
            refine TG_or (p := pa) ha (fun y hy => by have h1 := cx.2.1; have h2 := cx.2.2.1; rcases hy with rfl | rfl <;> assumption) qa hi (fun σb sb qb kb fb => ?_)
            obtain rfl := k2.uniq kb
            exact hB3.2 d K σb _ _ qb ⟨fun h => by have h : 1 ≤ (11 : Int) ∧ (11 : Int) ≤ 4 := h; omega, by show (11 : Int) ≠ 10; decide, by show (11 : Int) ≠ 12; decide⟩ (hq.go (fa.trans fb))
        · simp (decide := true) only [RR, ms_app, toList_some, toList_none, if_true, if_false, true_and, and_true, cond_true, sm0, sm1, sm1l, sm2, lc_lt, lc_gt, lc_eq, Int.toNat_natCast, Int.reduceToNat, Nat.reduceAdd, Nat.reduceEqDiff, Int.reduceLT, Int.reduceEq, Int.reduceNeg, Int.reduceAdd, Int.reduceMul, Nat.reduceMul, ms_n, ms_i, ms_l, ms_p, PX]
          refine At.blk rfl rfl rfl fun sx => ?_
          simp (decide := true) only [RR, ms_app, toList_some, toList_none, if_true, if_false, true_and, and_true, cond_true, sm0, sm1, sm1l, sm2, lc_lt, lc_gt, lc_eq, Int.toNat_natCast, Int.reduceToNat, Nat.reduceAdd, Nat.reduceEqDiff, Int.reduceLT, Int.reduceEq, Int.reduceNeg, Int.reduceAdd, Int.reduceMul, Nat.reduceMul, ms_n, ms_i, ms_l, ms_p, PX]
          exact hK1 σ' s' g' cs f x (by omega) hc a ⟨ty, cd, sp, na, nw⟩
    exact loop (N - s1) 0 σ1 s1 g1 cs rfl (by omega) f1 x1 hc1 a1 (ty1.mono (by omega)) na1 cd1 sp1
  · simp (decide := true) only [RR, ms_app, toList_some, toList_none, if_true, if_false, true_and, and_true, cond_true, sm0, sm1, sm1l, sm2, lc_lt, lc_gt, lc_eq, Int.toNat_natCast, Int.reduceToNat, Nat.reduceAdd, Nat.reduceEqDiff, Int.reduceLT, Int.reduceEq, Int.reduceNeg, Int.reduceAdd, Int.reduceMul, Nat.reduceMul, ms_n, ms_i, ms_l, ms_p, PX]
    refine hK0 σ1 k p f1 e1 e2 ⟨hB.1, fun d K σ rc ws q cx hq => ?_⟩
    exact hB.2 d K σ rc ws q ⟨cx.1, cx.2.1, cx.2.2.2⟩ hq
end
