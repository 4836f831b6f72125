section
variable {N : Nat} {t : Nat → Int} {sc tk : Int} {o s : Nat} {g : Bool}
theorem NmF.uniq {a b k p k' p' : Int} (h : NmF N t s g a b k p) (h2 : NmF N t s g a b k' p') : k = k' ∧ p = p' := by
  rcases h with ⟨rfl, rfl, hn⟩ | ⟨e, he, h⟩
  · rcases h2 with ⟨rfl, rfl, _⟩ | ⟨e, he, _⟩
    · exact ⟨rfl, rfl⟩
    · exact absurd he (hn e)
  · rcases h2 with ⟨_, _, hn⟩ | ⟨e2, he2, h2⟩
    · exact absurd he (hn e)
    · obtain rfl : e = e2 := he.2.2.2.uniq he2.2.2.2
      rcases h with ⟨h3, rfl, rfl⟩ | ⟨h3, h4, rfl, rfl⟩
      · rcases h2 with ⟨_, rfl, rfl⟩ | ⟨h5, _⟩
        · exact ⟨rfl, rfl⟩
        · omega
      · rcases h2 with ⟨h5, _⟩ | ⟨_, _, rfl, rfl⟩
        · omega
        · exact ⟨rfl, rfl⟩
theorem NmF.ne {a b k p : Int} (h : NmF N t s g a b k p) : k ≠ 0 := by
  rcases h with ⟨rfl, rfl, hn⟩ | ⟨e, he, ⟨h3, rfl, rfl⟩ | ⟨h3, h4, rfl, rfl⟩⟩ <;> decide
theorem NmF.big {k p : Int} (h : NmF N t s g 0 1000000 k p) : NmF N t s g 0 9999 k p := by
  rcases h with h | ⟨e, he, h | ⟨h3, h4, h5⟩⟩
  · exact Or.inl h
  · exact Or.inr ⟨e, he, Or.inl h⟩
  · exfalso
    have nv := numV_le (t := t) (s := s) (e - s) h3 (fun j hj => he.2.2.2.2.2.1 _ (by omega) (by omega))
    omega
theorem IsNm.noW {e e2 w : Nat} (h : IsNm N t s g e) : ¬IsWd N t s g e2 w := fun h2 => ltr_dgt h2.2.2.1 h.2.2.1
theorem IsNm.noS {e : Nat} {c : Int} (h : IsNm N t s g e) (hc : sgn c) : ¬IsSg N t s c := fun h2 => hc.no.2.1 (by rw [← h2.2]; exact h.2.2.1)
theorem IsWd.noN {e e2 w : Nat} (h : IsWd N t s g e w) : ¬IsNm N t s g e2 := fun h2 => ltr_dgt h.2.2.1 h2.2.2.1
theorem IsWd.noS {e w : Nat} {c : Int} (h : IsWd N t s g e w) (hc : sgn c) : ¬IsSg N t s c := fun h2 => hc.no.1 (by rw [← h2.2]; exact h.2.2.1)
theorem IsSg.noN {e : Nat} {c : Int} (h : IsSg N t s c) (hc : sgn c) : ¬IsNm N t s g e := fun h2 => h2.noS hc h
theorem IsNm.lt {e : Nat} (h : IsNm N t s g e) : s < e := by
  rcases Nat.lt_or_ge s e with c | c
  · exact c
  · have := h.2.2.2.1
    obtain rfl : e = s := by omega
    exact absurd h.2.2.1 (h.2.2.2.2.2.2 h.2.1)
theorem IsWd.lt {e w : Nat} (h : IsWd N t s g e w) (hw : w < 27) : s < e := by
  have := h.2.2.2.2.1
  have := (wl_tab w hw).1.1
  omega
theorem sg40 : sgn 40 := Or.inl rfl
theorem QA_simple {d : Nat} {was : Int} {K : Option mV → mM → Prop} {σ : mM} {rc up dn : List Int} (h : QT σ N t tk s g rc up dn o) (n40 : ¬IsSg N t s 40) (n22 : ∀ e, ¬IsWd N t s g e 22) (n23 : ∀ e, ¬IsWd N t s g e 23) (n2 : alw tk 9 → ∀ e, ¬IsWd N t s g e 2)
    (hw : ∀ j e σ' s', j < 9 → alw tk j → IsWd N t s g e (vw j) → Skp N t e s' → QT σ' N t tk s' (decide (s' = e)) ((40 + (j : Int)) :: rc) up dn o → Fr fqL fqT σ σ' → QE d was K σ')
    (hn : ∀ e σ' s', IsNm N t s g e → e - s ≤ 4 → Skp N t e s' → QT σ' N t tk s' (decide (s' = e)) ((1000 + numV t s (e - s)) :: rc) up dn o → Fr fqL fqT σ σ' → QE d was K σ')
    (hb : (∀ j, j < 9 → alw tk j → ∀ e, ¬IsWd N t s g e (vw j)) → ∀ k p, NmF N t s g 0 9999 k p → QB d was K σ k p) : QA d was K σ := by
  refine QA_two h n40 (fun σ1 c k o4 o5 q1 p1 f1 hk => ?_)
  have hk1 : k = -1 := by
    rcases hk with ⟨h, _⟩ | ⟨j, j1, j2, ja, rfl, e, je⟩
    · exact h
    · obtain rfl : j = 9 := by omega
      exact absurd je (n2 ja e)
  subst hk1
  refine QA_two_no q1 n22 n23 (fun σ2 q2 p2 f2 => ?_) o4 o5
  have F := f1.trans f2
  exact QA_end q2 (fun j e σ' s' h1 h2 h3 h4 h5 h6 => hw j e σ' s' h1 h2 h3 h4 h5 (F.trans h6)) (fun _ e σ' s' h1 h2 h3 h4 h5 => hn e σ' s' h1 h2 h3 h4 (F.trans h5)) (fun h1 k p h2 => (hb h1 k p h2).go F)
/-- min, max -/
theorem x_choice (ho : o ≤ 6) (hS : o < 6 → XS N t sc tk (o + 1)) {w : Nat} {st v : Int} (hw : w = 22 ∧ st = 16 ∧ v = 21 ∨ w = 23 ∧ st = 17 ∧ v = 22) (D : Nat) (σ : mM) (K : Option mV → mM → Prop) (L e : Nat) (hD : dF o ≤ D + 1) (hF : Fix σ) (hT : TxX σ N t) (hX : TX σ N t s g) (hL : σ 15 3 = (L : Int)) (hLN : L + N ≤ 1600 + s) (h5 : σ 19 5 = sc) (hi : IsWd N t s g e w) (q1 : σ 20 1 = 1) (q3 : σ 20 3 = (e : Int))
    (hK1 : ∀ σ' s' g' cs, Fr xqL xqT σ σ' → TX σ' N t s' g' → s < s' → cs.length ≤ s' - s → ApX L σ σ' cs → AF N t tk o s g s' g' cs → K (some (.inl 1)) σ') (hK0 : ∀ σ' k p, Fr xqL xqT σ σ' → σ' 19 2 = k → σ' 19 3 = p → SFno N t tk o s g k p → K (some (.inl 0)) σ') : Mt D 59 [.inr (.inr 19), .inl (o : Int), .inl st] σ K := by
  unfold dF at hD
  obtain ⟨d, rfl⟩ : ∃ d, D = d + 6 := ⟨D - 6, by omega⟩
  have n16 := hT.2.1
  have lt1 := hi.lt (by omega)
  have n40 : ¬IsSg N t s 40 := hi.noS sg40
  refine Mt.go (lv := [some (.inr (.inr 19)), some (.inl (o : Int)), some (.inl st)]) rfl rfl rfl ?_
  refine At.blk rfl rfl rfl fun sx => ?_
  simp (decide := true) only [RR, ms_app, toList_some, toList_none, if_true, if_false, true_and, and_true, cond_true, sm0, sm1, sm1l, sm2, lc_lt, lc_gt, lc_eq, Int.toNat_natCast, Int.reduceToNat, Nat.reduceAdd, Nat.reduceEqDiff, Int.reduceLT, Int.reduceEq, Int.reduceNeg, Int.reduceAdd, Int.reduceMul, Nat.reduceMul, ms_n, ms_i, ms_l, ms_p, PX, fxX hF]
  refine cal_of rfl (x_next hF hT q1 q3 hi.2.2.2.1.2.1 (fun σ1 s1 f1 k1 x1 => ?_))
  have k11 := k1.1
  have F1 : Fr xqL xqT σ σ1 := f1.tkq
  have hF1 := hF.fr F1 rfl
  have hT1 : TxX σ1 N t := hT.cg (F1 1 1 rfl) (F1.row 2 rfl)
  -- the model's first steps
  have m1 : ∀ (d : Nat) (was : Int) (K : Option mV → mM → Prop) (σ : mM) (rc up dn : List Int), QT σ N t tk s g rc up dn o → (o < 6 → IsSg N t s1 40 → ∀ σ' s', QT σ' N t tk s' false rc (v :: up) dn (o + 1) → Skp N t (s1 + 1) s' → Fr fqL fqT σ σ' → QA d was K σ') → (o = 6 → IsSg N t s1 40 → QB d was K σ 4 (s1 : Int)) → (¬IsSg N t s1 40 → QB d was K σ 1 (s1 : Int)) → QA d was K σ := by
    intro d was K σ rc up dn q a b c
    refine QA_two q n40 (fun σ1 cc k o4 o5 q1 p1 f1 hk => ?_)
    refine QA_two_min (w := w) (v := v) (by omega) q1 hi k1 (fun h1 h2 σ' s' h3 h4 h5 => a h1 h2 σ' s' h3 h4 (f1.trans h5)) (fun h1 h2 => (b h1 h2).go f1) (fun h1 => (c h1).go f1) o4 o5
  simp (decide := true) only [RR, ms_app, toList_some, toList_none, if_true, if_false, true_and, and_true, cond_true, sm0, sm1, sm1l, sm2, lc_lt, lc_gt, lc_eq, Int.toNat_natCast, Int.reduceToNat, Nat.reduceAdd, Nat.reduceEqDiff, Int.reduceLT, Int.reduceEq, Int.reduceNeg, Int.reduceAdd, Int.reduceMul, Nat.reduceMul, ms_n, ms_i, ms_l, ms_p, PX, fxX hF1]
  refine cal_of rfl (x_isSign hF1 hT1 sg40 x1 (fun hp p1 p3 => ?_) (fun hp => ?_))
  · simp (decide := true) only [RR, ms_app, toList_some, toList_none, if_true, if_false, true_and, and_true, cond_true, sm0, sm1, sm1l, sm2, lc_lt, lc_gt, lc_eq, Int.toNat_natCast, Int.reduceToNat, Nat.reduceAdd, Nat.reduceEqDiff, Int.reduceLT, Int.reduceEq, Int.reduceNeg, Int.reduceAdd, Int.reduceMul, Nat.reduceMul, ms_n, ms_i, ms_l, ms_p, PX]
    refine At.blk rfl rfl rfl fun sx => ?_
    simp (decide := true) only [RR, ms_app, toList_some, toList_none, if_true, if_false, true_and, and_true, cond_true, sm0, sm1, sm1l, sm2, lc_lt, lc_gt, lc_eq, Int.toNat_natCast, Int.reduceToNat, Nat.reduceAdd, Nat.reduceEqDiff, Int.reduceLT, Int.reduceEq, Int.reduceNeg, Int.reduceAdd, Int.reduceMul, Nat.reduceMul, ms_n, ms_i, ms_l, ms_p, PX]
    have hp1 := hp.1
    have two : ∀ σ', K (some (.inl 0)) σ' → At (d + 5) 59 2 [some (.inr (.inr 19)), some (.inl (o : Int)), some (.inl st)] [] σ' K := by
      intro σ' h
      refine At.blk rfl rfl rfl fun sx => ?_
      simp (decide := true) only [RR, ms_app, toList_some, toList_none, if_true, if_false, true_and, and_true, cond_true, sm0, sm1, sm1l, sm2, lc_lt, lc_gt, lc_eq, Int.toNat_natCast, Int.reduceToNat, Nat.reduceAdd, Nat.reduceEqDiff, Int.reduceLT, Int.reduceEq, Int.reduceNeg, Int.reduceAdd, Int.reduceMul, Nat.reduceMul, ms_n, ms_i, ms_l, ms_p, PX]
      exact h
    refine cal_of rfl (x_takeOpening ho hF1 hT1 x1 p1 p3 (by omega) (fun ho6 σ2 s2 f2 k2 x2 => ?_) (fun ho6 => ?_))
    · rw [decide_eq_false (by omega)] at x2
      have k21 := k2.1
      have F2 := F1.trans f2.tkq
      have hF2 := hF.fr F2 rfl
      have hT2 : TxX σ2 N t := hT.cg (F2 1 1 rfl) (F2.row 2 rfl)
      have A2 : ApX L σ σ2 [] := ApX.nil hL ((f1.mono rfl).trans (f2.mono rfl))
      have w1 : Unit → w32 ((o : Int) + 1) = ((o + 1 : Nat) : Int) := fun _ => by rw [w32_small (by omega) (by omega)]; omega
      simp (decide := true) only [RR, ms_app, toList_some, toList_none, if_true, if_false, true_and, and_true, cond_true, sm0, sm1, sm1l, sm2, lc_lt, lc_gt, lc_eq, Int.toNat_natCast, Int.reduceToNat, Nat.reduceAdd, Nat.reduceEqDiff, Int.reduceLT, Int.reduceEq, Int.reduceNeg, Int.reduceAdd, Int.reduceMul, Nat.reduceMul, ms_n, ms_i, ms_l, ms_p, PX, w1 ()]
      have cx1 : ∀ up dn : List Int, cxS (v :: up) dn := fun up dn => ⟨by show ¬(1 ≤ v ∧ v ≤ 4); omega, fun x l e => by injection e with e1 e2; omega⟩
      have cx2 : ∀ up dn : List Int, cxS ((v + 2) :: up) dn := fun up dn => ⟨by show ¬(1 ≤ v + 2 ∧ v + 2 ≤ 4); omega, fun x l e => by injection e with e1 e2; omega⟩
      refine cal_of rfl (hS ho6 (d + 5) σ2 _ s2 false L (by unfold dS; omega) hF2 hT2 x2 A2.1 (by omega) ((F2 19 5 rfl).trans h5) (fun σ3 s3 g3 cs3 f3 x3 hs3 hc3 a3 hA3 => ?_) (fun σ3 kk pp f3 e3 e4 hB3 => ?_))
      · obtain ⟨ty3, cd3, ss3, no3⟩ := hA3
        have F3 := F2.trans f3
        have hF3 := hF.fr F3 rfl
        have hT3 : TxX σ3 N t := hT.cg (F3 1 1 rfl) (F3.row 2 rfl)
        have A3 : ApX L σ σ3 cs3 := A2.trans a3
        -- the model behind the first sum
        have m3 : ∀ (d : Nat) (was : Int) (K : Option mV → mM → Prop) (σ : mM) (rc up dn : List Int), QT σ N t tk s g rc up dn o → (∀ σ' s', IsSg N t s3 44 → QT σ' N t tk s' false (cs3.reverse ++ rc) ((v + 2) :: up) dn (o + 1) → Skp N t (s3 + 1) s' → Fr fqL fqT σ σ' → QA d was K σ') → (¬IsSg N t s3 44 → QB d was K σ 1 (s3 : Int)) → QA d was K σ := by
          intro d was K σ rc up dn q a b
          refine m1 d was K σ rc up dn q (fun _ _ σa sa qa ka fa => ?_) (fun h => absurd h (by omega)) (fun h => absurd hp h)
          obtain rfl := k2.uniq ka
          refine ss3 d was K σa _ _ dn qa (cx1 up dn) (fun σb rcb pb qb eb hb fb => ?_)
          refine QG_comma (x := v) hb (by omega) qb no3 (fun hi4 σc sc qc kc fc => ?_) (fun h => (b h).go (fa.trans fb))
          rw [eb] at qc
          exact a σc sc hi4 qc kc ((fa.trans fb).trans fc)
        simp (decide := true) only [RR, ms_app, toList_some, toList_none, if_true, if_false, true_and, and_true, cond_true, sm0, sm1, sm1l, sm2, lc_lt, lc_gt, lc_eq, Int.toNat_natCast, Int.reduceToNat, Nat.reduceAdd, Nat.reduceEqDiff, Int.reduceLT, Int.reduceEq, Int.reduceNeg, Int.reduceAdd, Int.reduceMul, Nat.reduceMul, ms_n, ms_i, ms_l, ms_p, PX]
        refine cal_of rfl (x_takeSign hF3 hT3 (c := 44) (by unfold sgn; omega) x3 (fun σ4 s4 hi4 k4 f4 x4 => ?_) (fun hi4 => ?_))
        · have k41 := k4.1
          have F4 := F3.trans f4.tkq
          have hF4 := hF.fr F4 rfl
          have hT4 : TxX σ4 N t := hT.cg (F4 1 1 rfl) (F4.row 2 rfl)
          have A4 : ApX L σ σ4 cs3 := A3.mv (f4.mono rfl)
          have four : ∀ σ', K (some (.inl 0)) σ' → At (d + 5) 59 4 [some (.inr (.inr 19)), some (.inl (o : Int)), some (.inl st)] [] σ' K := by
            intro σ' h
            refine At.blk rfl rfl rfl fun sx => ?_
            simp (decide := true) only [RR, ms_app, toList_some, toList_none, if_true, if_false, true_and, and_true, cond_true, sm0, sm1, sm1l, sm2, lc_lt, lc_gt, lc_eq, Int.toNat_natCast, Int.reduceToNat, Nat.reduceAdd, Nat.reduceEqDiff, Int.reduceLT, Int.reduceEq, Int.reduceNeg, Int.reduceAdd, Int.reduceMul, Nat.reduceMul, ms_n, ms_i, ms_l, ms_p, PX]
            exact h
          simp (decide := true) only [RR, ms_app, toList_some, toList_none, if_true, if_false, true_and, and_true, cond_true, sm0, sm1, sm1l, sm2, lc_lt, lc_gt, lc_eq, Int.toNat_natCast, Int.reduceToNat, Nat.reduceAdd, Nat.reduceEqDiff, Int.reduceLT, Int.reduceEq, Int.reduceNeg, Int.reduceAdd, Int.reduceMul, Nat.reduceMul, ms_n, ms_i, ms_l, ms_p, PX]
          refine At.blk rfl rfl rfl fun sx => ?_
          simp (decide := true) only [RR, ms_app, toList_some, toList_none, if_true, if_false, true_and, and_true, cond_true, sm0, sm1, sm1l, sm2, lc_lt, lc_gt, lc_eq, Int.toNat_natCast, Int.reduceToNat, Nat.reduceAdd, Nat.reduceEqDiff, Int.reduceLT, Int.reduceEq, Int.reduceNeg, Int.reduceAdd, Int.reduceMul, Nat.reduceMul, ms_n, ms_i, ms_l, ms_p, PX, w1 ()]
          refine cal_of rfl (hS ho6 (d + 5) σ4 _ s4 false (L + cs3.length) (by unfold dS; omega) hF4 hT4 x4 A4.1 (by omega) ((F4 19 5 rfl).trans h5) (fun σ5 s5 g5 cs5 f5 x5 hs5 hc5 a5 hA5 => ?_) (fun σ5 kk pp f5 e5 e6 hB5 => ?_))
          · obtain ⟨ty5, cd5, ss5, no5⟩ := hA5
            have F5 := F4.trans f5
            have hF5 := hF.fr F5 rfl
            have hT5 : TxX σ5 N t := hT.cg (F5 1 1 rfl) (F5.row 2 rfl)
            have A5 : ApX L σ σ5 (cs3 ++ cs5) := A4.trans a5
            have m5 : ∀ (d : Nat) (was : Int) (K : Option mV → mM → Prop) (σ : mM) (rc up dn : List Int), QT σ N t tk s g rc up dn o → (∀ σ' rc' p, QT σ' N t tk s5 g5 rc' (p ++ (v + 2) :: up) dn (o + 1) → p.reverse ++ rc' = cs5.reverse ++ (cs3.reverse ++ rc) → (∀ y ∈ p, 1 ≤ y ∧ y ≤ 4) → Fr fqL fqT σ σ' → QG d was K σ') → QA d was K σ := by
              intro d was K σ rc up dn q a
              refine m3 d was K σ rc up dn q (fun σa sa _ qa ka fa => ?_) (fun h => absurd hi4 h)
              obtain rfl := k4.uniq ka
              exact ss5 d was K σa _ _ dn qa (cx2 up dn) (fun σb rcb pb qb eb hb fb => a σb rcb pb qb eb hb (fa.trans fb))
            simp (decide := true) only [RR, ms_app, toList_some, toList_none, if_true, if_false, true_and, and_true, cond_true, sm0, sm1, sm1l, sm2, lc_lt, lc_gt, lc_eq, Int.toNat_natCast, Int.reduceToNat, Nat.reduceAdd, Nat.reduceEqDiff, Int.reduceLT, Int.reduceEq, Int.reduceNeg, Int.reduceAdd, Int.reduceMul, Nat.reduceMul, ms_n, ms_i, ms_l, ms_p, PX]
            refine cal_of rfl (x_takeSign hF5 hT5 (c := 41) (by unfold sgn; omega) x5 (fun σ6 s6 hi6 k6 f6 x6 => ?_) (fun hi6 => ?_))
            · have k61 := k6.1
              have s6N := x6.le
              have F6 := F5.trans f6.tkq
              have hF6 := hF.fr F6 rfl
              have A6 : ApX L σ σ6 (cs3 ++ cs5) := A5.mv (f6.mono rfl)
              have st32 : i_or (i_shl 0 5) st = st := by
                rcases hw with ⟨_, rfl, _⟩ | ⟨_, rfl, _⟩
                · exact step_op 16 (by decide)
                · exact step_op 17 (by decide)
              have hst : StepR st (v - 16) := Or.inr (Or.inr (Or.inr (Or.inr (Or.inr ⟨st, by omega, rfl, by omega⟩))))
              simp (decide := true) only [RR, ms_app, toList_some, toList_none, if_true, if_false, true_and, and_true, cond_true, sm0, sm1, sm1l, sm2, lc_lt, lc_gt, lc_eq, Int.toNat_natCast, Int.reduceToNat, Nat.reduceAdd, Nat.reduceEqDiff, Int.reduceLT, Int.reduceEq, Int.reduceNeg, Int.reduceAdd, Int.reduceMul, Nat.reduceMul, ms_n, ms_i, ms_l, ms_p, PX]
              refine At.blk rfl rfl rfl fun sx => ?_
              simp (decide := true) only [RR, ms_app, toList_some, toList_none, if_true, if_false, true_and, and_true, cond_true, sm0, sm1, sm1l, sm2, lc_lt, lc_gt, lc_eq, Int.toNat_natCast, Int.reduceToNat, Nat.reduceAdd, Nat.reduceEqDiff, Int.reduceLT, Int.reduceEq, Int.reduceNeg, Int.reduceAdd, Int.reduceMul, Nat.reduceMul, ms_n, ms_i, ms_l, ms_p, PX, fxX hF6]
              refine cal_of rfl (x_addStep (L := L + (cs3 ++ cs5).length) hF6 A6.1 (by rw [List.length_append]; omega) st32 ?_)
              simp (decide := true) only [RR, ms_app, toList_some, toList_none, if_true, if_false, true_and, and_true, cond_true, sm0, sm1, sm1l, sm2, lc_lt, lc_gt, lc_eq, Int.toNat_natCast, Int.reduceToNat, Nat.reduceAdd, Nat.reduceEqDiff, Int.reduceLT, Int.reduceEq, Int.reduceNeg, Int.reduceAdd, Int.reduceMul, Nat.reduceMul, ms_n, ms_i, ms_l, ms_p, PX]
              refine hK1 _ s6 false (cs3 ++ cs5 ++ [v - 16]) ((F6.setr rfl).set rfl) (x6.cg rfl) (by omega) (by simp only [List.length_append, List.length_singleton]; omega) (A6.push hst) ⟨?_, ?_, ?_⟩
              · exact (TyS.two ty3 ty5 (tyC_op (v := v - 16) (by omega))).mono (by omega)
              · refine (cd3.app cd5).app (fun c hc => ?_)
                rw [List.mem_singleton] at hc
                exact Or.inr (Or.inr (Or.inl (by omega)))
              · intro d was K σ rc up dn q hfin
                refine m5 d was K σ rc up dn q (fun σa rca pa qa ea ha fa => ?_)
                refine QG_close (x := v + 2) ha (by omega) qa hi6 (fun σb sb qb kb fb => ?_)
                obtain rfl := k6.uniq kb
                refine hfin σb ?_ (fa.trans fb)
                rw [if_neg (by omega), ea] at qb
                have e : (cs3 ++ cs5 ++ [v - 16]).reverse ++ rc = [if v + 2 = 23 then 5 else 6] ++ (cs5.reverse ++ (cs3.reverse ++ rc)) := by
                  have : v - 16 = if v + 2 = 23 then 5 else 6 := by split <;> omega
                  rw [this]
                  simp [List.append_assoc]
                rw [e]; exact qb
            · simp (decide := true) only [RR, ms_app, toList_some, toList_none, if_true, if_false, true_and, and_true, cond_true, sm0, sm1, sm1l, sm2, lc_lt, lc_gt, lc_eq, Int.toNat_natCast, Int.reduceToNat, Nat.reduceAdd, Nat.reduceEqDiff, Int.reduceLT, Int.reduceEq, Int.reduceNeg, Int.reduceAdd, Int.reduceMul, Nat.reduceMul, ms_n, ms_i, ms_l, ms_p, PX]
              refine four _ (hK0 _ 1 s5 ((F5.set rfl).set rfl) rfl rfl ⟨by decide, fun d was K σ rc up dn q hq => ?_⟩)
              refine m5 d was K σ rc up dn q (fun σa rca pa qa ea ha fa => ?_)
              exact QG_fail (x := v + 2) ha (by omega) qa no5 hi6 (hq.go fa)
          · simp (decide := true) only [RR, ms_app, toList_some, toList_none, if_true, if_false, true_and, and_true, cond_true, sm0, sm1, sm1l, sm2, lc_lt, lc_gt, lc_eq, Int.toNat_natCast, Int.reduceToNat, Nat.reduceAdd, Nat.reduceEqDiff, Int.reduceLT, Int.reduceEq, Int.reduceNeg, Int.reduceAdd, Int.reduceMul, Nat.reduceMul, ms_n, ms_i, ms_l, ms_p, PX]
            refine four _ (hK0 σ5 kk pp (F4.trans f5) e5 e6 ⟨hB5.1, fun d was K σ rc up dn q hq => ?_⟩)
            refine m3 d was K σ rc up dn q (fun σa sa _ qa ka fa => ?_) (fun h => absurd hi4 h)
            obtain rfl := k4.uniq ka
            exact hB5.2 d was K σa _ _ dn qa (cx2 up dn) (hq.go fa)
        · simp (decide := true) only [RR, ms_app, toList_some, toList_none, if_true, if_false, true_and, and_true, cond_true, sm0, sm1, sm1l, sm2, lc_lt, lc_gt, lc_eq, Int.toNat_natCast, Int.reduceToNat, Nat.reduceAdd, Nat.reduceEqDiff, Int.reduceLT, Int.reduceEq, Int.reduceNeg, Int.reduceAdd, Int.reduceMul, Nat.reduceMul, ms_n, ms_i, ms_l, ms_p, PX]
          refine two _ (hK0 _ 1 s3 ((F3.set rfl).set rfl) rfl rfl ⟨by decide, fun d was K σ rc up dn q hq => ?_⟩)
          exact m3 d was K σ rc up dn q (fun σa sa h => absurd h hi4) (fun _ => hq)
      · simp (decide := true) only [RR, ms_app, toList_some, toList_none, if_true, if_false, true_and, and_true, cond_true, sm0, sm1, sm1l, sm2, lc_lt, lc_gt, lc_eq, Int.toNat_natCast, Int.reduceToNat, Nat.reduceAdd, Nat.reduceEqDiff, Int.reduceLT, Int.reduceEq, Int.reduceNeg, Int.reduceAdd, Int.reduceMul, Nat.reduceMul, ms_n, ms_i, ms_l, ms_p, PX]
        refine two _ (hK0 σ3 kk pp (F2.trans f3) e3 e4 ⟨hB3.1, fun d was K σ rc up dn q hq => ?_⟩)
        refine m1 d was K σ rc up dn q (fun _ _ σa sa qa ka fa => ?_) (fun h => absurd h (by omega)) (fun h => absurd hp h)
        obtain rfl := k2.uniq ka
        exact hB3.2 d was K σa _ _ dn qa (cx1 up dn) (hq.go fa)
    · simp (decide := true) only [RR, ms_app, toList_some, toList_none, if_true, if_false, true_and, and_true, cond_true, sm0, sm1, sm1l, sm2, lc_lt, lc_gt, lc_eq, Int.toNat_natCast, Int.reduceToNat, Nat.reduceAdd, Nat.reduceEqDiff, Int.reduceLT, Int.reduceEq, Int.reduceNeg, Int.reduceAdd, Int.reduceMul, Nat.reduceMul, ms_n, ms_i, ms_l, ms_p, PX]
      refine two _ (hK0 _ 4 s1 ((F1.set rfl).set rfl) rfl rfl ⟨by decide, fun d was K σ rc up dn q hq => ?_⟩)
      exact m1 d was K σ rc up dn q (fun h => absurd h (by omega)) (fun _ _ => hq) (fun h => absurd hp h)
  · simp (decide := true) only [RR, ms_app, toList_some, toList_none, if_true, if_false, true_and, and_true, cond_true, sm0, sm1, sm1l, sm2, lc_lt, lc_gt, lc_eq, Int.toNat_natCast, Int.reduceToNat, Nat.reduceAdd, Nat.reduceEqDiff, Int.reduceLT, Int.reduceEq, Int.reduceNeg, Int.reduceAdd, Int.reduceMul, Nat.reduceMul, ms_n, ms_i, ms_l, ms_p, PX, fxX hF1, x1.st]
    refine cal_of rfl (x_fail ?_)
    simp (decide := true) only [RR, ms_app, toList_some, toList_none, if_true, if_false, true_and, and_true, cond_true, sm0, sm1, sm1l, sm2, lc_lt, lc_gt, lc_eq, Int.toNat_natCast, Int.reduceToNat, Nat.reduceAdd, Nat.reduceEqDiff, Int.reduceLT, Int.reduceEq, Int.reduceNeg, Int.reduceAdd, Int.reduceMul, Nat.reduceMul, ms_n, ms_i, ms_l, ms_p, PX]
    refine hK0 _ 1 s1 ((F1.set rfl).set rfl) rfl rfl ⟨by decide, fun d was K σ rc up dn q hq => ?_⟩
    exact m1 d was K σ rc up dn q (fun _ h => absurd h hp) (fun _ h => absurd h hp) (fun _ => hq)
theorem XF.step (ho : o ≤ 6) (hsc : scR sc tk) (hS : o < 6 → XS N t sc tk (o + 1)) (hFn : o < 6 → XF N t sc tk (o + 1)) : XF N t sc tk o := by
  intro D σ K s g L hD hF hT hX hL hLN h5 hK1 hK0
  have hD' := hD
  unfold dF at hD
  obtain ⟨d, rfl⟩ : ∃ d, D = d + 6 := ⟨D - 6, by omega⟩
  have n16 := hT.2.1
  have sN := hX.le
  refine Mt.go (lv := [some (.inr (.inr 19)), some (.inl (o : Int)), none]) rfl rfl rfl ?_
  have w1 : Unit → w32 ((o : Int) + 1) = ((o + 1 : Nat) : Int) := fun _ => by rw [w32_small (by omega) (by omega)]; omega
  by_cases ck : σ 20 1 = 2
  · -- a number
    rcases hX.view with ⟨a, q⟩ | ⟨e, a, b, c, r, q, q3, qw⟩ | ⟨e, a, b, c, r, q, q3, qn⟩ | ⟨a, b, c, c2, q, q3⟩ | ⟨a, b, c, q⟩
    · omega
    · omega
    · have hi : IsNm N t s g e := ⟨a, b, c, r⟩
      have nS := fun {c : Int} (hc : sgn c) => hi.noS (c := c) hc
      refine At.blk rfl rfl rfl fun sx => ?_
      simp (decide := true) only [RR, ms_app, toList_some, toList_none, if_true, if_false, true_and, and_true, cond_true, sm0, sm1, sm1l, sm2, lc_lt, lc_gt, lc_eq, Int.toNat_natCast, Int.reduceToNat, Nat.reduceAdd, Nat.reduceEqDiff, Int.reduceLT, Int.reduceEq, Int.reduceNeg, Int.reduceAdd, Int.reduceMul, Nat.reduceMul, ms_n, ms_i, ms_l, ms_p, PX, fxX hF, ck]
      refine cal_of rfl (x_checkNumber hF hT hX (fun e2 hi2 h4 hr _ q32 q5 => ?_) (fun k p hN => ?_))
      · obtain rfl : e = e2 := r.uniq hi2.2.2.2
        have nv := numV_le (t := t) (s := s) (e - s) h4 (fun j hj => r.2.2.1 _ (by omega) (by omega))
        have hlt := hi.lt
        simp (decide := true) only [RR, ms_app, toList_some, toList_none, if_true, if_false, true_and, and_true, cond_true, sm0, sm1, sm1l, sm2, lc_lt, lc_gt, lc_eq, Int.toNat_natCast, Int.reduceToNat, Nat.reduceAdd, Nat.reduceEqDiff, Int.reduceLT, Int.reduceEq, Int.reduceNeg, Int.reduceAdd, Int.reduceMul, Nat.reduceMul, ms_n, ms_i, ms_l, ms_p, PX]
        refine At.blk rfl rfl rfl fun sx => ?_
        simp (decide := true) only [RR, ms_app, toList_some, toList_none, if_true, if_false, true_and, and_true, cond_true, sm0, sm1, sm1l, sm2, lc_lt, lc_gt, lc_eq, Int.toNat_natCast, Int.reduceToNat, Nat.reduceAdd, Nat.reduceEqDiff, Int.reduceLT, Int.reduceEq, Int.reduceNeg, Int.reduceAdd, Int.reduceMul, Nat.reduceMul, ms_n, ms_i, ms_l, ms_p, PX, fxX hF, q5]
        refine cal_of rfl (x_addStep hF hL (by omega) (step_num ⟨nv.1, by omega⟩) ?_)
        have F1 : Fr xqL xqT σ (mj_set (mj_set σ 16 L (32 * numV t s (e - s))) 15 3 ((L + 1 : Nat) : Int)) := (Fr.same.setr rfl).set rfl
        have hF1 := hF.fr F1 rfl
        have hT1 : TxX (mj_set (mj_set σ 16 L (32 * numV t s (e - s))) 15 3 ((L + 1 : Nat) : Int)) N t := hT.cg rfl rfl
        have A1 : ApX L σ (mj_set (mj_set σ 16 L (32 * numV t s (e - s))) 15 3 ((L + 1 : Nat) : Int)) [1000 + numV t s (e - s)] := ApX.push (cs := []) (ApX.nil hL Fr.same) (Or.inl ⟨numV t s (e - s), ⟨nv.1, by omega⟩, rfl, rfl⟩)
        have e1 : mj_set (mj_set σ 16 L (32 * numV t s (e - s))) 15 3 ((L + 1 : Nat) : Int) 20 1 = 2 := ck
        have e3 : mj_set (mj_set σ 16 L (32 * numV t s (e - s))) 15 3 ((L + 1 : Nat) : Int) 20 3 = (e : Int) := q3
        generalize mj_set (mj_set σ 16 L (32 * numV t s (e - s))) 15 3 ((L + 1 : Nat) : Int) = σ1 at *
        simp (decide := true) only [RR, ms_app, toList_some, toList_none, if_true, if_false, true_and, and_true, cond_true, sm0, sm1, sm1l, sm2, lc_lt, lc_gt, lc_eq, Int.toNat_natCast, Int.reduceToNat, Nat.reduceAdd, Nat.reduceEqDiff, Int.reduceLT, Int.reduceEq, Int.reduceNeg, Int.reduceAdd, Int.reduceMul, Nat.reduceMul, ms_n, ms_i, ms_l, ms_p, PX, fxX hF1]
        refine cal_of rfl (x_next hF1 hT1 e1 e3 r.2.1 (fun σ2 s2 f2 k2 x2 => ?_))
        have k21 := k2.1
        rw [show decide (((2 : Int) = 1 ∨ (2 : Int) = 2) ∧ s2 = e) = decide (s2 = e) by simp] at x2
        simp (decide := true) only [RR, ms_app, toList_some, toList_none, if_true, if_false, true_and, and_true, cond_true, sm0, sm1, sm1l, sm2, lc_lt, lc_gt, lc_eq, Int.toNat_natCast, Int.reduceToNat, Nat.reduceAdd, Nat.reduceEqDiff, Int.reduceLT, Int.reduceEq, Int.reduceNeg, Int.reduceAdd, Int.reduceMul, Nat.reduceMul, ms_n, ms_i, ms_l, ms_p, PX]
        refine hK1 σ2 s2 _ [1000 + numV t s (e - s)] (F1.trans f2.tkq) x2 (by omega) (by simp only [List.length_singleton]; omega) (A1.mv (f2.mono rfl)) ⟨TyS.val (Or.inl (by omega)) (by omega), fun c hc => ?_, ?_⟩
        · rw [List.mem_singleton] at hc
          exact Or.inl (by omega)
        · intro d was K σ rc up dn q hfin
          refine QA_simple q (nS sg40) (fun e2 h2 => hi.noW h2) (fun e2 h2 => hi.noW h2) (fun _ e2 h2 => hi.noW h2) (fun j e2 σ' s' _ _ h3 => absurd h3 (hi.noW)) (fun e2 σ' s' h1 h2 h3 h4 h5 => ?_) (fun _ k2 p2 h2 => ?_)
          · obtain rfl : e = e2 := r.uniq h1.2.2.2
            obtain rfl := k2.uniq h3
            exact hfin σ' h4 h5
          · exfalso
            rcases h2 with ⟨_, _, hn⟩ | ⟨e3, he3, ⟨h3, _⟩ | ⟨h3, h4, _⟩⟩
            · exact hn e hi
            · obtain rfl : e = e3 := r.uniq he3.2.2.2
              omega
            · obtain rfl : e = e3 := r.uniq he3.2.2.2
              omega
      · simp (decide := true) only [RR, ms_app, toList_some, toList_none, if_true, if_false, true_and, and_true, cond_true, sm0, sm1, sm1l, sm2, lc_lt, lc_gt, lc_eq, Int.toNat_natCast, Int.reduceToNat, Nat.reduceAdd, Nat.reduceEqDiff, Int.reduceLT, Int.reduceEq, Int.reduceNeg, Int.reduceAdd, Int.reduceMul, Nat.reduceMul, ms_n, ms_i, ms_l, ms_p, PX]
        refine hK0 _ k p ((Fr.same.set rfl).set rfl) rfl rfl ⟨hN.ne, fun d was K σ rc up dn q hq => ?_⟩
        refine QA_simple q (nS sg40) (fun e2 h2 => hi.noW h2) (fun e2 h2 => hi.noW h2) (fun _ e2 h2 => hi.noW h2) (fun j e2 σ' s' _ _ h3 => absurd h3 (hi.noW)) (fun e2 σ' s' h1 h2 => ?_) (fun _ k2 p2 h2 => ?_)
        · exfalso
          rcases hN.big with ⟨_, _, hn⟩ | ⟨e3, he3, ⟨h3, _⟩ | ⟨h3, h4, _⟩⟩
          · exact hn e hi
          · obtain rfl : e2 = e3 := h1.2.2.2.uniq he3.2.2.2
            omega
          · have nv := numV_le (t := t) (s := s) (e3 - s) h3 (fun j hj => he3.2.2.2.2.2.1 _ (by omega) (by omega))
            omega
        · obtain ⟨rfl, rfl⟩ := hN.big.uniq h2
          exact hq
    · omega
    · omega
  · have nN : ∀ e, ¬IsNm N t s g e := by
      intro e hi
      rcases hX.view with ⟨a, q⟩ | ⟨e, a, b, c, r, q, q3, qw⟩ | ⟨e, a, b, c, r, q, q3, qn⟩ | ⟨a, b, c, c2, q, q3⟩ | ⟨a, b, c, q⟩
      · have := hi.2.1; omega
      · exact ltr_dgt c hi.2.2.1
      · exact ck q
      · exact c2 hi.2.2.1
      · rw [a] at hi; exact absurd hi.1 (by decide)
    refine At.blk rfl rfl rfl fun sx => ?_
    simp (decide := true) only [RR, ms_app, toList_some, toList_none, if_true, if_false, true_and, and_true, cond_true, sm0, sm1, sm1l, sm2, lc_lt, lc_gt, lc_eq, Int.toNat_natCast, Int.reduceToNat, Nat.reduceAdd, Nat.reduceEqDiff, Int.reduceLT, Int.reduceEq, Int.reduceNeg, Int.reduceAdd, Int.reduceMul, Nat.reduceMul, ms_n, ms_i, ms_l, ms_p, PX, fxX hF]
    rw [if_neg ck]
    refine At.blk rfl rfl rfl fun sx => ?_
    simp (decide := true) only [RR, ms_app, toList_some, toList_none, if_true, if_false, true_and, and_true, cond_true, sm0, sm1, sm1l, sm2, lc_lt, lc_gt, lc_eq, Int.toNat_natCast, Int.reduceToNat, Nat.reduceAdd, Nat.reduceEqDiff, Int.reduceLT, Int.reduceEq, Int.reduceNeg, Int.reduceAdd, Int.reduceMul, Nat.reduceMul, ms_n, ms_i, ms_l, ms_p, PX, fxX hF]
    refine cal_of rfl (x_isSign hF hT sg40 hX (fun hp p1 p3 => ?_) (fun n40 => ?_))
    · -- '('
      have hp1 := hp.1
      have three : ∀ σ', K (some (.inl 0)) σ' → At (d + 5) 58 3 [some (.inr (.inr 19)), some (.inl (o : Int)), none] [] σ' K := by
        intro σ' h
        refine At.blk rfl rfl rfl fun sx => ?_
        simp (decide := true) only [RR, ms_app, toList_some, toList_none, if_true, if_false, true_and, and_true, cond_true, sm0, sm1, sm1l, sm2, lc_lt, lc_gt, lc_eq, Int.toNat_natCast, Int.reduceToNat, Nat.reduceAdd, Nat.reduceEqDiff, Int.reduceLT, Int.reduceEq, Int.reduceNeg, Int.reduceAdd, Int.reduceMul, Nat.reduceMul, ms_n, ms_i, ms_l, ms_p, PX]
        refine At.blk rfl rfl rfl fun sx => ?_
        simp (decide := true) only [RR, ms_app, toList_some, toList_none, if_true, if_false, true_and, and_true, cond_true, sm0, sm1, sm1l, sm2, lc_lt, lc_gt, lc_eq, Int.toNat_natCast, Int.reduceToNat, Nat.reduceAdd, Nat.reduceEqDiff, Int.reduceLT, Int.reduceEq, Int.reduceNeg, Int.reduceAdd, Int.reduceMul, Nat.reduceMul, ms_n, ms_i, ms_l, ms_p, PX]
        exact h
      have cx1 : ∀ up dn : List Int, cxS (20 :: up) dn := fun up dn => ⟨by show ¬(1 ≤ (20 : Int) ∧ (20 : Int) ≤ 4); decide, fun x l e => by injection e with e1 e2; omega⟩
      simp (decide := true) only [RR, ms_app, toList_some, toList_none, if_true, if_false, true_and, and_true, cond_true, sm0, sm1, sm1l, sm2, lc_lt, lc_gt, lc_eq, Int.toNat_natCast, Int.reduceToNat, Nat.reduceAdd, Nat.reduceEqDiff, Int.reduceLT, Int.reduceEq, Int.reduceNeg, Int.reduceAdd, Int.reduceMul, Nat.reduceMul, ms_n, ms_i, ms_l, ms_p, PX]
      refine cal_of rfl (x_takeOpening ho hF hT hX p1 p3 (by omega) (fun ho6 σ2 s2 f2 k2 x2 => ?_) (fun ho6 => ?_))
      · rw [decide_eq_false (by omega)] at x2
        have k21 := k2.1
        have F2 : Fr xqL xqT σ σ2 := f2.tkq
        have hF2 := hF.fr F2 rfl
        have hT2 : TxX σ2 N t := hT.cg (F2 1 1 rfl) (F2.row 2 rfl)
        have A2 : ApX L σ σ2 [] := ApX.nil hL (f2.mono rfl)
        simp (decide := true) only [RR, ms_app, toList_some, toList_none, if_true, if_false, true_and, and_true, cond_true, sm0, sm1, sm1l, sm2, lc_lt, lc_gt, lc_eq, Int.toNat_natCast, Int.reduceToNat, Nat.reduceAdd, Nat.reduceEqDiff, Int.reduceLT, Int.reduceEq, Int.reduceNeg, Int.reduceAdd, Int.reduceMul, Nat.reduceMul, ms_n, ms_i, ms_l, ms_p, PX, w1 ()]
        refine cal_of rfl (hS ho6 (d + 5) σ2 _ s2 false L (by unfold dS; omega) hF2 hT2 x2 A2.1 (by omega) ((F2 19 5 rfl).trans h5) (fun σ3 s3 g3 cs3 f3 x3 hs3 hc3 a3 hA3 => ?_) (fun σ3 kk pp f3 e3 e4 hB3 => ?_))
        · obtain ⟨ty3, cd3, ss3, no3⟩ := hA3
          have F3 := F2.trans f3
          have hF3 := hF.fr F3 rfl
          have hT3 : TxX σ3 N t := hT.cg (F3 1 1 rfl) (F3.row 2 rfl)
          have A3 : ApX L σ σ3 cs3 := A2.trans a3
          simp (decide := true) only [RR, ms_app, toList_some, toList_none, if_true, if_false, true_and, and_true, cond_true, sm0, sm1, sm1l, sm2, lc_lt, lc_gt, lc_eq, Int.toNat_natCast, Int.reduceToNat, Nat.reduceAdd, Nat.reduceEqDiff, Int.reduceLT, Int.reduceEq, Int.reduceNeg, Int.reduceAdd, Int.reduceMul, Nat.reduceMul, ms_n, ms_i, ms_l, ms_p, PX]
          refine cal_of rfl (x_takeSign hF3 hT3 (c := 41) (by unfold sgn; omega) x3 (fun σ4 s4 hi4 k4 f4 x4 => ?_) (fun hi4 => ?_))
          · have k41 := k4.1
            simp (decide := true) only [RR, ms_app, toList_some, toList_none, if_true, if_false, true_and, and_true, cond_true, sm0, sm1, sm1l, sm2, lc_lt, lc_gt, lc_eq, Int.toNat_natCast, Int.reduceToNat, Nat.reduceAdd, Nat.reduceEqDiff, Int.reduceLT, Int.reduceEq, Int.reduceNeg, Int.reduceAdd, Int.reduceMul, Nat.reduceMul, ms_n, ms_i, ms_l, ms_p, PX]
            refine At.blk rfl rfl rfl fun sx => ?_
            simp (decide := true) only [RR, ms_app, toList_some, toList_none, if_true, if_false, true_and, and_true, cond_true, sm0, sm1, sm1l, sm2, lc_lt, lc_gt, lc_eq, Int.toNat_natCast, Int.reduceToNat, Nat.reduceAdd, Nat.reduceEqDiff, Int.reduceLT, Int.reduceEq, Int.reduceNeg, Int.reduceAdd, Int.reduceMul, Nat.reduceMul, ms_n, ms_i, ms_l, ms_p, PX]
            refine hK1 σ4 s4 false cs3 (F3.trans f4.tkq) x4 (by omega) (by omega) (A3.mv (f4.mono rfl)) ⟨ty3.mono (by omega), cd3, ?_⟩
            intro d was K σ rc up dn q hfin
            refine QA_open q hp (fun _ σa sa qa ka fa => ?_) (fun h => absurd h (by omega))
            obtain rfl := k2.uniq ka
            refine ss3 d was K σa _ _ dn qa (cx1 up dn) (fun σb rcb pb qb eb hb fb => ?_)
            refine QG_close (x := 20) hb (Or.inl rfl) qb hi4 (fun σc sc qc kc fc => ?_)
            obtain rfl := k4.uniq kc
            rw [if_pos rfl, List.nil_append, eb] at qc
            exact hfin σc qc ((fa.trans fb).trans fc)
          · simp (decide := true) only [RR, ms_app, toList_some, toList_none, if_true, if_false, true_and, and_true, cond_true, sm0, sm1, sm1l, sm2, lc_lt, lc_gt, lc_eq, Int.toNat_natCast, Int.reduceToNat, Nat.reduceAdd, Nat.reduceEqDiff, Int.reduceLT, Int.reduceEq, Int.reduceNeg, Int.reduceAdd, Int.reduceMul, Nat.reduceMul, ms_n, ms_i, ms_l, ms_p, PX]
            refine three _ (hK0 _ 1 s3 ((F3.set rfl).set rfl) rfl rfl ⟨by decide, fun d was K σ rc up dn q hq => ?_⟩)
            refine QA_open q hp (fun _ σa sa qa ka fa => ?_) (fun h => absurd h (by omega))
            obtain rfl := k2.uniq ka
            refine ss3 d was K σa _ _ dn qa (cx1 up dn) (fun σb rcb pb qb eb hb fb => ?_)
            exact QG_fail (x := 20) hb (Or.inl rfl) qb no3 hi4 (hq.go (fa.trans fb))
        · simp (decide := true) only [RR, ms_app, toList_some, toList_none, if_true, if_false, true_and, and_true, cond_true, sm0, sm1, sm1l, sm2, lc_lt, lc_gt, lc_eq, Int.toNat_natCast, Int.reduceToNat, Nat.reduceAdd, Nat.reduceEqDiff, Int.reduceLT, Int.reduceEq, Int.reduceNeg, Int.reduceAdd, Int.reduceMul, Nat.reduceMul, ms_n, ms_i, ms_l, ms_p, PX]
          refine three _ (hK0 σ3 kk pp (F2.trans f3) e3 e4 ⟨hB3.1, fun d was K σ rc up dn q hq => ?_⟩)
          refine QA_open q hp (fun _ σa sa qa ka fa => ?_) (fun h => absurd h (by omega))
          obtain rfl := k2.uniq ka
          exact hB3.2 d was K σa _ _ dn qa (cx1 up dn) (hq.go fa)
      · simp (decide := true) only [RR, ms_app, toList_some, toList_none, if_true, if_false, true_and, and_true, cond_true, sm0, sm1, sm1l, sm2, lc_lt, lc_gt, lc_eq, Int.toNat_natCast, Int.reduceToNat, Nat.reduceAdd, Nat.reduceEqDiff, Int.reduceLT, Int.reduceEq, Int.reduceNeg, Int.reduceAdd, Int.reduceMul, Nat.reduceMul, ms_n, ms_i, ms_l, ms_p, PX]
        refine three _ (hK0 _ 4 s ((Fr.same.set rfl).set rfl) rfl rfl ⟨by decide, fun d was K σ rc up dn q hq => ?_⟩)
        exact QA_open q hp (fun h => absurd h (by omega)) (fun _ => hq)
    · simp (decide := true) only [RR, ms_app, toList_some, toList_none, if_true, if_false, true_and, and_true, cond_true, sm0, sm1, sm1l, sm2, lc_lt, lc_gt, lc_eq, Int.toNat_natCast, Int.reduceToNat, Nat.reduceAdd, Nat.reduceEqDiff, Int.reduceLT, Int.reduceEq, Int.reduceNeg, Int.reduceAdd, Int.reduceMul, Nat.reduceMul, ms_n, ms_i, ms_l, ms_p, PX]
      refine At.blk rfl rfl rfl fun sx => ?_
      simp (decide := true) only [RR, ms_app, toList_some, toList_none, if_true, if_false, true_and, and_true, cond_true, sm0, sm1, sm1l, sm2, lc_lt, lc_gt, lc_eq, Int.toNat_natCast, Int.reduceToNat, Nat.reduceAdd, Nat.reduceEqDiff, Int.reduceLT, Int.reduceEq, Int.reduceNeg, Int.reduceAdd, Int.reduceMul, Nat.reduceMul, ms_n, ms_i, ms_l, ms_p, PX, fxX hF]
      refine cal_of rfl (x_isWord (w := 22) (by decide) hX (fun e hi q1 q3 => ?_) (fun n22 => ?_))
      · simp (decide := true) only [RR, ms_app, toList_some, toList_none, if_true, if_false, true_and, and_true, cond_true, sm0, sm1, sm1l, sm2, lc_lt, lc_gt, lc_eq, Int.toNat_natCast, Int.reduceToNat, Nat.reduceAdd, Nat.reduceEqDiff, Int.reduceLT, Int.reduceEq, Int.reduceNeg, Int.reduceAdd, Int.reduceMul, Nat.reduceMul, ms_n, ms_i, ms_l, ms_p, PX]
        refine cal_of rfl (x_choice (w := 22) (st := 16) (v := 21) ho hS (Or.inl ⟨rfl, rfl, rfl⟩) (d + 5) σ _ L e (by unfold dF; omega) hF hT hX hL hLN h5 hi q1 q3 (fun σ' s' g' cs f x h1 h2 h3 h4 => ?_) (fun σ' k p f h1 h2 h3 => ?_))
        · simp (decide := true) only [RR, ms_app, toList_some, toList_none, if_true, if_false, true_and, and_true, cond_true, sm0, sm1, sm1l, sm2, lc_lt, lc_gt, lc_eq, Int.toNat_natCast, Int.reduceToNat, Nat.reduceAdd, Nat.reduceEqDiff, Int.reduceLT, Int.reduceEq, Int.reduceNeg, Int.reduceAdd, Int.reduceMul, Nat.reduceMul, ms_n, ms_i, ms_l, ms_p, PX]
          exact hK1 σ' s' g' cs f x h1 h2 h3 h4
        · simp (decide := true) only [RR, ms_app, toList_some, toList_none, if_true, if_false, true_and, and_true, cond_true, sm0, sm1, sm1l, sm2, lc_lt, lc_gt, lc_eq, Int.toNat_natCast, Int.reduceToNat, Nat.reduceAdd, Nat.reduceEqDiff, Int.reduceLT, Int.reduceEq, Int.reduceNeg, Int.reduceAdd, Int.reduceMul, Nat.reduceMul, ms_n, ms_i, ms_l, ms_p, PX]
          exact hK0 σ' k p f h1 h2 h3
      · simp (decide := true) only [RR, ms_app, toList_some, toList_none, if_true, if_false, true_and, and_true, cond_true, sm0, sm1, sm1l, sm2, lc_lt, lc_gt, lc_eq, Int.toNat_natCast, Int.reduceToNat, Nat.reduceAdd, Nat.reduceEqDiff, Int.reduceLT, Int.reduceEq, Int.reduceNeg, Int.reduceAdd, Int.reduceMul, Nat.reduceMul, ms_n, ms_i, ms_l, ms_p, PX]
        refine At.blk rfl rfl rfl fun sx => ?_
        simp (decide := true) only [RR, ms_app, toList_some, toList_none, if_true, if_false, true_and, and_true, cond_true, sm0, sm1, sm1l, sm2, lc_lt, lc_gt, lc_eq, Int.toNat_natCast, Int.reduceToNat, Nat.reduceAdd, Nat.reduceEqDiff, Int.reduceLT, Int.reduceEq, Int.reduceNeg, Int.reduceAdd, Int.reduceMul, Nat.reduceMul, ms_n, ms_i, ms_l, ms_p, PX, fxX hF]
        refine cal_of rfl (x_isWord (w := 23) (by decide) hX (fun e hi q1 q3 => ?_) (fun n23 => ?_))
        · simp (decide := true) only [RR, ms_app, toList_some, toList_none, if_true, if_false, true_and, and_true, cond_true, sm0, sm1, sm1l, sm2, lc_lt, lc_gt, lc_eq, Int.toNat_natCast, Int.reduceToNat, Nat.reduceAdd, Nat.reduceEqDiff, Int.reduceLT, Int.reduceEq, Int.reduceNeg, Int.reduceAdd, Int.reduceMul, Nat.reduceMul, ms_n, ms_i, ms_l, ms_p, PX]
          refine cal_of rfl (x_choice (w := 23) (st := 17) (v := 22) ho hS (Or.inr ⟨rfl, rfl, rfl⟩) (d + 5) σ _ L e (by unfold dF; omega) hF hT hX hL hLN h5 hi q1 q3 (fun σ' s' g' cs f x h1 h2 h3 h4 => ?_) (fun σ' k p f h1 h2 h3 => ?_))
          · simp (decide := true) only [RR, ms_app, toList_some, toList_none, if_true, if_false, true_and, and_true, cond_true, sm0, sm1, sm1l, sm2, lc_lt, lc_gt, lc_eq, Int.toNat_natCast, Int.reduceToNat, Nat.reduceAdd, Nat.reduceEqDiff, Int.reduceLT, Int.reduceEq, Int.reduceNeg, Int.reduceAdd, Int.reduceMul, Nat.reduceMul, ms_n, ms_i, ms_l, ms_p, PX]
            exact hK1 σ' s' g' cs f x h1 h2 h3 h4
          · simp (decide := true) only [RR, ms_app, toList_some, toList_none, if_true, if_false, true_and, and_true, cond_true, sm0, sm1, sm1l, sm2, lc_lt, lc_gt, lc_eq, Int.toNat_natCast, Int.reduceToNat, Nat.reduceAdd, Nat.reduceEqDiff, Int.reduceLT, Int.reduceEq, Int.reduceNeg, Int.reduceAdd, Int.reduceMul, Nat.reduceMul, ms_n, ms_i, ms_l, ms_p, PX]
            exact hK0 σ' k p f h1 h2 h3
        · -- a value
          have ten : (alw tk 9 → ∀ e, ¬IsWd N t s g e 2) → At (d + 5) 58 10 [some (.inr (.inr 19)), some (.inl (o : Int)), none] [] σ K := by
            intro n2
            refine At.blk rfl rfl rfl fun sx => ?_
            simp (decide := true) only [RR, ms_app, toList_some, toList_none, if_true, if_false, true_and, and_true, cond_true, sm0, sm1, sm1l, sm2, lc_lt, lc_gt, lc_eq, Int.toNat_natCast, Int.reduceToNat, Nat.reduceAdd, Nat.reduceEqDiff, Int.reduceLT, Int.reduceEq, Int.reduceNeg, Int.reduceAdd, Int.reduceMul, Nat.reduceMul, ms_n, ms_i, ms_l, ms_p, PX]
            refine cal_of rfl (x_valueStep hsc hF hX h5 (fun j e hj ha hi q1 q3 => ?_) (fun hn => ?_))
            · have hlt := hi.lt (vw_lt j (by omega))
              have e27 := hi.2.2.2.1.2.1
              simp (decide := true) only [RR, ms_app, toList_some, toList_none, if_true, if_false, true_and, and_true, cond_true, sm0, sm1, sm1l, sm2, lc_lt, lc_gt, lc_eq, Int.toNat_natCast, Int.reduceToNat, Nat.reduceAdd, Nat.reduceEqDiff, Int.reduceLT, Int.reduceEq, Int.reduceNeg, Int.reduceAdd, Int.reduceMul, Nat.reduceMul, ms_n, ms_i, ms_l, ms_p, PX]
              rw [if_neg (by omega)]
              refine At.blk rfl rfl rfl fun sx => ?_
              simp (decide := true) only [RR, ms_app, toList_some, toList_none, if_true, if_false, true_and, and_true, cond_true, sm0, sm1, sm1l, sm2, lc_lt, lc_gt, lc_eq, Int.toNat_natCast, Int.reduceToNat, Nat.reduceAdd, Nat.reduceEqDiff, Int.reduceLT, Int.reduceEq, Int.reduceNeg, Int.reduceAdd, Int.reduceMul, Nat.reduceMul, ms_n, ms_i, ms_l, ms_p, PX, fxX hF]
              have st32 : i_or (i_shl 0 5) ((j : Int) + 1) = (j : Int) + 1 := by
                have := step_op (j + 1) (by omega)
                rw [show ((j + 1 : Nat) : Int) = (j : Int) + 1 by omega] at this
                exact this
              refine cal_of rfl (x_addStep hF hL (by omega) st32 ?_)
              have F1 : Fr xqL xqT σ (mj_set (mj_set σ 16 L ((j : Int) + 1)) 15 3 ((L + 1 : Nat) : Int)) := (Fr.same.setr rfl).set rfl
              have hF1 := hF.fr F1 rfl
              have hT1 : TxX (mj_set (mj_set σ 16 L ((j : Int) + 1)) 15 3 ((L + 1 : Nat) : Int)) N t := hT.cg rfl rfl
              have A1 : ApX L σ (mj_set (mj_set σ 16 L ((j : Int) + 1)) 15 3 ((L + 1 : Nat) : Int)) [40 + (j : Int)] := ApX.push (cs := []) (ApX.nil hL Fr.same) (Or.inr (Or.inr (Or.inl ⟨(j : Int) + 1, by omega, rfl, by omega⟩)))
              have e1 : mj_set (mj_set σ 16 L ((j : Int) + 1)) 15 3 ((L + 1 : Nat) : Int) 20 1 = 1 := q1
              have e3 : mj_set (mj_set σ 16 L ((j : Int) + 1)) 15 3 ((L + 1 : Nat) : Int) 20 3 = (e : Int) := q3
              generalize mj_set (mj_set σ 16 L ((j : Int) + 1)) 15 3 ((L + 1 : Nat) : Int) = σ1 at *
              simp (decide := true) only [RR, ms_app, toList_some, toList_none, if_true, if_false, true_and, and_true, cond_true, sm0, sm1, sm1l, sm2, lc_lt, lc_gt, lc_eq, Int.toNat_natCast, Int.reduceToNat, Nat.reduceAdd, Nat.reduceEqDiff, Int.reduceLT, Int.reduceEq, Int.reduceNeg, Int.reduceAdd, Int.reduceMul, Nat.reduceMul, ms_n, ms_i, ms_l, ms_p, PX, fxX hF1]
              refine cal_of rfl (x_next hF1 hT1 e1 e3 e27 (fun σ2 s2 f2 k2 x2 => ?_))
              have k21 := k2.1
              rw [show decide (((1 : Int) = 1 ∨ (1 : Int) = 2) ∧ s2 = e) = decide (s2 = e) by simp] at x2
              simp (decide := true) only [RR, ms_app, toList_some, toList_none, if_true, if_false, true_and, and_true, cond_true, sm0, sm1, sm1l, sm2, lc_lt, lc_gt, lc_eq, Int.toNat_natCast, Int.reduceToNat, Nat.reduceAdd, Nat.reduceEqDiff, Int.reduceLT, Int.reduceEq, Int.reduceNeg, Int.reduceAdd, Int.reduceMul, Nat.reduceMul, ms_n, ms_i, ms_l, ms_p, PX]
              refine hK1 σ2 s2 _ [40 + (j : Int)] (F1.trans f2.tkq) x2 (by omega) (by simp only [List.length_singleton]; omega) (A1.mv (f2.mono rfl)) ⟨TyS.val (Or.inr (by omega)) (by omega), fun c hc => ?_, ?_⟩
              · rw [List.mem_singleton] at hc
                refine Or.inr (Or.inl ⟨by omega, ?_⟩)
                rw [hc, show (40 + (j : Int) - 40).toNat = j by omega]
                exact ha
              · intro d was K σ rc up dn q hfin
                refine QA_simple q n40 n22 n23 n2 (fun j2 e2 σ' s' hj2 _ h3 h4 h5 h6 => ?_) (fun e2 σ' s' h1 => absurd h1 (nN e2)) (fun h _ _ _ => absurd hi (h j hj ha e))
                obtain ⟨rfl, hv⟩ := hi.uniq h3 (vw_lt j (by omega)) (vw_lt j2 (by omega))
                obtain rfl := vw_inj j (by omega) j2 (by omega) hv
                obtain rfl := k2.uniq h4
                exact hfin σ' h5 h6
            · simp (decide := true) only [RR, ms_app, toList_some, toList_none, if_true, if_false, true_and, and_true, cond_true, sm0, sm1, sm1l, sm2, lc_lt, lc_gt, lc_eq, Int.toNat_natCast, Int.reduceToNat, Nat.reduceAdd, Nat.reduceEqDiff, Int.reduceLT, Int.reduceEq, Int.reduceNeg, Int.reduceAdd, Int.reduceMul, Nat.reduceMul, ms_n, ms_i, ms_l, ms_p, PX, fxX hF, hX.st]
              refine cal_of rfl (x_fail ?_)
              simp (decide := true) only [RR, ms_app, toList_some, toList_none, if_true, if_false, true_and, and_true, cond_true, sm0, sm1, sm1l, sm2, lc_lt, lc_gt, lc_eq, Int.toNat_natCast, Int.reduceToNat, Nat.reduceAdd, Nat.reduceEqDiff, Int.reduceLT, Int.reduceEq, Int.reduceNeg, Int.reduceAdd, Int.reduceMul, Nat.reduceMul, ms_n, ms_i, ms_l, ms_p, PX]
              refine hK0 _ 1 s ((Fr.same.set rfl).set rfl) rfl rfl ⟨by decide, fun d was K σ rc up dn q hq => ?_⟩
              refine QA_simple q n40 n22 n23 n2 (fun j2 e2 σ' s' hj2 ha2 h3 => absurd h3 (hn j2 hj2 ha2 e2)) (fun e2 σ' s' h1 => absurd h1 (nN e2)) (fun _ k p h2 => ?_)
              obtain ⟨rfl, rfl⟩ := (show NmF N t s g 0 9999 1 (s : Int) from Or.inl ⟨rfl, rfl, nN⟩).uniq h2
              exact hq
          simp (decide := true) only [RR, ms_app, toList_some, toList_none, if_true, if_false, true_and, and_true, cond_true, sm0, sm1, sm1l, sm2, lc_lt, lc_gt, lc_eq, Int.toNat_natCast, Int.reduceToNat, Nat.reduceAdd, Nat.reduceEqDiff, Int.reduceLT, Int.reduceEq, Int.reduceNeg, Int.reduceAdd, Int.reduceMul, Nat.reduceMul, ms_n, ms_i, ms_l, ms_p, PX]
          refine At.blk rfl rfl rfl fun sx => ?_
          simp (decide := true) only [RR, ms_app, toList_some, toList_none, if_true, if_false, true_and, and_true, cond_true, sm0, sm1, sm1l, sm2, lc_lt, lc_gt, lc_eq, Int.toNat_natCast, Int.reduceToNat, Nat.reduceAdd, Nat.reduceEqDiff, Int.reduceLT, Int.reduceEq, Int.reduceNeg, Int.reduceAdd, Int.reduceMul, Nat.reduceMul, ms_n, ms_i, ms_l, ms_p, PX, fxX hF]
          refine cal_of rfl (x_isWord (w := 2) (by decide) hX (fun e hi q1 q3 => ?_) (fun n2 => ?_))
          · simp (decide := true) only [RR, ms_app, toList_some, toList_none, if_true, if_false, true_and, and_true, cond_true, sm0, sm1, sm1l, sm2, lc_lt, lc_gt, lc_eq, Int.toNat_natCast, Int.reduceToNat, Nat.reduceAdd, Nat.reduceEqDiff, Int.reduceLT, Int.reduceEq, Int.reduceNeg, Int.reduceAdd, Int.reduceMul, Nat.reduceMul, ms_n, ms_i, ms_l, ms_p, PX, h5]
            by_cases c3 : sc = 3
            · rw [if_pos c3]
              have hlt := hi.lt (by decide)
              have e27 := hi.2.2.2.1.2.1
              have a9 : alw tk 9 := alw_sc hsc c3
              have t2 : tk = 2 := by unfold scR at hsc; omega
              have eight : ∀ σ', K (some (.inl 0)) σ' → At (d + 5) 58 8 [some (.inr (.inr 19)), some (.inl (o : Int)), none] [] σ' K := by
                intro σ' h
                refine At.blk rfl rfl rfl fun sx => ?_
                simp (decide := true) only [RR, ms_app, toList_some, toList_none, if_true, if_false, true_and, and_true, cond_true, sm0, sm1, sm1l, sm2, lc_lt, lc_gt, lc_eq, Int.toNat_natCast, Int.reduceToNat, Nat.reduceAdd, Nat.reduceEqDiff, Int.reduceLT, Int.reduceEq, Int.reduceNeg, Int.reduceAdd, Int.reduceMul, Nat.reduceMul, ms_n, ms_i, ms_l, ms_p, PX]
                exact h
              have m1 : ∀ (d : Nat) (was : Int) (K : Option mV → mM → Prop) (σ : mM) (rc up dn : List Int), QT σ N t tk s g rc up dn o → (o < 6 → ∀ σ' s', QT σ' N t tk s' (decide (s' = e)) rc (60 :: up) dn (o + 1) → Skp N t e s' → Fr fqL fqT σ σ' → QA d was K σ') → (o = 6 → QB d was K σ 4 (s : Int)) → QA d was K σ := by
                intro d was K σ rc up dn q a b
                refine QA_two q n40 (fun σ1 c k o4 o5 q1 p1 f1 hk => ?_)
                have hk9 : k = 9 := by
                  rcases hk with ⟨_, h⟩ | ⟨j, j1, j2, ja, rfl, _⟩
                  · exact absurd hi (h 9 (by decide) (by decide) a9 e)
                  · omega
                subst hk9
                refine QA_two_no q1 n22 n23 (fun σ2 q2 p2 f2 => ?_) o4 o5
                exact QA_near q2 p2 hi (fun h σ' s' h1 h2 h3 => a h σ' s' h1 h2 ((f1.trans f2).trans h3)) (fun h => (b h).go (f1.trans f2))
              refine cal_of rfl (x_takeOpening ho hF hT hX q1 q3 e27 (fun ho6 σ2 s2 f2 k2 x2 => ?_) (fun ho6 => ?_))
              · rw [show decide (((1 : Int) = 1 ∨ (1 : Int) = 2) ∧ s2 = e) = decide (s2 = e) by simp] at x2
                have k21 := k2.1
                have F2 : Fr xqL xqT σ σ2 := f2.tkq
                have hF2 := hF.fr F2 rfl
                have hT2 : TxX σ2 N t := hT.cg (F2 1 1 rfl) (F2.row 2 rfl)
                have A2 : ApX L σ σ2 [] := ApX.nil hL (f2.mono rfl)
                simp (decide := true) only [RR, ms_app, toList_some, toList_none, if_true, if_false, true_and, and_true, cond_true, sm0, sm1, sm1l, sm2, lc_lt, lc_gt, lc_eq, Int.toNat_natCast, Int.reduceToNat, Nat.reduceAdd, Nat.reduceEqDiff, Int.reduceLT, Int.reduceEq, Int.reduceNeg, Int.reduceAdd, Int.reduceMul, Nat.reduceMul, ms_n, ms_i, ms_l, ms_p, PX, w1 ()]
                refine cal_of rfl (hFn ho6 (d + 5) σ2 _ s2 (decide (s2 = e)) L (by unfold dF; omega) hF2 hT2 x2 A2.1 (by omega) ((F2 19 5 rfl).trans h5) (fun σ3 s3 g3 cs3 f3 x3 hs3 hc3 a3 hA3 => ?_) (fun σ3 kk pp f3 e3 e4 hB3 => ?_))
                · obtain ⟨ty3, cd3, sf3⟩ := hA3
                  have F3 := F2.trans f3
                  have hF3 := hF.fr F3 rfl
                  have A3 : ApX L σ σ3 cs3 := A2.trans a3
                  have s3N := x3.le
                  simp (decide := true) only [RR, ms_app, toList_some, toList_none, if_true, if_false, true_and, and_true, cond_true, sm0, sm1, sm1l, sm2, lc_lt, lc_gt, lc_eq, Int.toNat_natCast, Int.reduceToNat, Nat.reduceAdd, Nat.reduceEqDiff, Int.reduceLT, Int.reduceEq, Int.reduceNeg, Int.reduceAdd, Int.reduceMul, Nat.reduceMul, ms_n, ms_i, ms_l, ms_p, PX]
                  refine At.blk rfl rfl rfl fun sx => ?_
                  simp (decide := true) only [RR, ms_app, toList_some, toList_none, if_true, if_false, true_and, and_true, cond_true, sm0, sm1, sm1l, sm2, lc_lt, lc_gt, lc_eq, Int.toNat_natCast, Int.reduceToNat, Nat.reduceAdd, Nat.reduceEqDiff, Int.reduceLT, Int.reduceEq, Int.reduceNeg, Int.reduceAdd, Int.reduceMul, Nat.reduceMul, ms_n, ms_i, ms_l, ms_p, PX, fxX hF3]
                  refine cal_of rfl (x_addStep (L := L + cs3.length) hF3 A3.1 (by omega) (step_op 10 (by decide)) ?_)
                  simp (decide := true) only [RR, ms_app, toList_some, toList_none, if_true, if_false, true_and, and_true, cond_true, sm0, sm1, sm1l, sm2, lc_lt, lc_gt, lc_eq, Int.toNat_natCast, Int.reduceToNat, Nat.reduceAdd, Nat.reduceEqDiff, Int.reduceLT, Int.reduceEq, Int.reduceNeg, Int.reduceAdd, Int.reduceMul, Nat.reduceMul, ms_n, ms_i, ms_l, ms_p, PX]
                  refine hK1 _ s3 g3 (cs3 ++ [60]) ((F3.setr rfl).set rfl) (x3.cg rfl) (by omega) (by simp only [List.length_append, List.length_singleton]; omega) (A3.push (Or.inr (Or.inr (Or.inr (Or.inl ⟨rfl, rfl⟩))))) ⟨?_, ?_, ?_⟩
                  · refine (TyS.one ty3 (fun ts => ?_)).mono (by omega)
                    rfl
                  · refine cd3.app (fun c hc => ?_)
                    rw [List.mem_singleton] at hc
                    exact Or.inr (Or.inr (Or.inr ⟨t2, hc⟩))
                  · intro d was K σ rc up dn q hfin
                    refine m1 d was K σ rc up dn q (fun _ σa sa qa ka fa => ?_) (fun h => absurd h (by omega))
                    obtain rfl := k2.uniq ka
                    refine sf3 d was K σa _ _ dn qa (fun σb qb fb => ?_)
                    refine QE_pop qb (fun σc qc fc => ?_)
                    refine hfin σc ?_ ((fa.trans fb).trans fc)
                    rw [List.reverse_append]
                    exact qc
                · simp (decide := true) only [RR, ms_app, toList_some, toList_none, if_true, if_false, true_and, and_true, cond_true, sm0, sm1, sm1l, sm2, lc_lt, lc_gt, lc_eq, Int.toNat_natCast, Int.reduceToNat, Nat.reduceAdd, Nat.reduceEqDiff, Int.reduceLT, Int.reduceEq, Int.reduceNeg, Int.reduceAdd, Int.reduceMul, Nat.reduceMul, ms_n, ms_i, ms_l, ms_p, PX]
                  refine eight _ (hK0 σ3 kk pp (F2.trans f3) e3 e4 ⟨hB3.1, fun d was K σ rc up dn q hq => ?_⟩)
                  refine m1 d was K σ rc up dn q (fun _ σa sa qa ka fa => ?_) (fun h => absurd h (by omega))
                  obtain rfl := k2.uniq ka
                  exact hB3.2 d was K σa _ _ dn qa (hq.go fa)
              · simp (decide := true) only [RR, ms_app, toList_some, toList_none, if_true, if_false, true_and, and_true, cond_true, sm0, sm1, sm1l, sm2, lc_lt, lc_gt, lc_eq, Int.toNat_natCast, Int.reduceToNat, Nat.reduceAdd, Nat.reduceEqDiff, Int.reduceLT, Int.reduceEq, Int.reduceNeg, Int.reduceAdd, Int.reduceMul, Nat.reduceMul, ms_n, ms_i, ms_l, ms_p, PX]
                refine eight _ (hK0 _ 4 s ((Fr.same.set rfl).set rfl) rfl rfl ⟨by decide, fun d was K σ rc up dn q hq => ?_⟩)
                exact m1 d was K σ rc up dn q (fun h => absurd h (by omega)) (fun _ => hq)
            · rw [if_neg c3]
              refine ten (fun ha _ _ => ?_)
              unfold alw at ha
              unfold scR at hsc
              rcases hsc with ⟨rfl, rfl⟩ | ⟨rfl, rfl⟩ | ⟨rfl, rfl⟩ | ⟨rfl, rfl⟩
              · revert ha; decide
              · revert ha; decide
              · revert ha; decide
              · exact c3 rfl
          · simp (decide := true) only [RR, ms_app, toList_some, toList_none, if_true, if_false, true_and, and_true, cond_true, sm0, sm1, sm1l, sm2, lc_lt, lc_gt, lc_eq, Int.toNat_natCast, Int.reduceToNat, Nat.reduceAdd, Nat.reduceEqDiff, Int.reduceLT, Int.reduceEq, Int.reduceNeg, Int.reduceAdd, Int.reduceMul, Nat.reduceMul, ms_n, ms_i, ms_l, ms_p, PX]
            exact ten (fun _ => n2)
theorem X_all (hsc : scR sc tk) : ∀ m o : Nat, 6 - o = m → o ≤ 6 → XF N t sc tk o ∧ XS N t sc tk o := by
  intro m
  induction m with
  | zero =>
    intro o h1 h2
    have hf : XF N t sc tk o := XF.step h2 hsc (fun h => absurd h (by omega)) (fun h => absurd h (by omega))
    exact ⟨hf, (hf.prod h2).sum h2⟩
  | succ m ih =>
    intro o h1 h2
    have hf : XF N t sc tk o := XF.step h2 hsc (fun h => (ih (o + 1) (by omega) (by omega)).2) (fun h => (ih (o + 1) (by omega) (by omega)).1)
    exact ⟨hf, (hf.prod h2).sum h2⟩
end
