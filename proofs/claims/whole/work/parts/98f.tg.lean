section
variable {d : Nat} {K : Option mV → mM → Prop} {σ σ0 : mM} {N : Nat} {t : Nat → Int} {s : Nat} {g : Bool} {rc ws : List Int} {o : Nat}
theorem m_qHasSquare (h : QT σ N t 2 s g rc ws [] o) (h1 : 25 ∈ ws → K (some (.inl 1)) σ) (h0 : 25 ∉ ws → K (some (.inl 0)) σ) : Mt (d + 1) 252 [.inr (.inr 146)] σ K := by
  refine Mt.go (lv := [some (.inr (.inr 146)), none]) rfl rfl rfl ?_
  obtain ⟨sN, n16⟩ := h.le
  have hlt := h.2.1
  obtain ⟨q1, -, -, -, -, -, ⟨q8, q9⟩, -, -, -⟩ := h.1
  rw [List.append_nil] at q8 q9 hlt
  refine At.blk rfl rfl rfl fun sx => ?_
  simp (decide := true) only [RR, ms_app, toList_some, toList_none, if_true, if_false, true_and, and_true, cond_true, sm0, sm1, sm1l, sm2, lc_lt, lc_gt, lc_eq, Int.toNat_natCast, Int.reduceToNat, Nat.reduceAdd, Nat.reduceEqDiff, Int.reduceLT, Int.reduceEq, Int.reduceNeg, Int.reduceAdd, Int.reduceMul, Nat.reduceMul, ms_n, ms_i, ms_l, ms_p, PM]
  have loop : ∀ (m : Nat) (a b : List Int), a.length = m → a ++ b = ws → (∀ y ∈ b, y ≠ 25) → At d 252 1 [some (.inr (.inr 146)), some (.inl (b.length : Int))] [] σ K := by
    intro m
    induction m with
    | zero =>
      intro a b ha hab hb
      have : a = [] := List.length_eq_zero_iff.mp ha
      subst this
      rw [List.nil_append] at hab
      subst hab
      refine At.blk rfl rfl rfl fun sx => ?_
      simp (decide := true) only [RR, ms_app, toList_some, toList_none, if_true, if_false, true_and, and_true, cond_true, sm0, sm1, sm1l, sm2, lc_lt, lc_gt, lc_eq, Int.toNat_natCast, Int.reduceToNat, Nat.reduceAdd, Nat.reduceEqDiff, Int.reduceLT, Int.reduceEq, Int.reduceNeg, Int.reduceAdd, Int.reduceMul, Nat.reduceMul, ms_n, ms_i, ms_l, ms_p, PM, q8]
      rw [if_neg (by omega)]
      refine At.blk rfl rfl rfl fun sx => ?_
      simp (decide := true) only [RR, ms_app, toList_some, toList_none, if_true, if_false, true_and, and_true, cond_true, sm0, sm1, sm1l, sm2, lc_lt, lc_gt, lc_eq, Int.toNat_natCast, Int.reduceToNat, Nat.reduceAdd, Nat.reduceEqDiff, Int.reduceLT, Int.reduceEq, Int.reduceNeg, Int.reduceAdd, Int.reduceMul, Nat.reduceMul, ms_n, ms_i, ms_l, ms_p, PM]
      exact h0 (fun hm => hb 25 hm rfl)
    | succ m ih =>
      intro a b ha hab hb
      have hne : a ≠ [] := by intro e; rw [e] at ha; cases ha
      obtain ⟨a', x, rfl⟩ : ∃ a' x, a = a' ++ [x] := ⟨a.dropLast, a.getLast hne, (List.dropLast_concat_getLast hne).symm⟩
      have hab' : a' ++ (x :: b) = ws := by rw [← hab, List.append_assoc]; rfl
      have hl : ws.length = a'.length + (b.length + 1) := by rw [← hab']; simp
      have ex : σ 215 b.length = x := Stk.get (a := a') (by rw [hab']; exact q9)
      have w1 : Unit → w32 ((b.length : Int) + 1) = ((b.length + 1 : Nat) : Int) := fun _ => by rw [w32_small (by omega) (by omega)]; omega
      refine At.blk rfl rfl rfl fun sx => ?_
      simp (decide := true) only [RR, ms_app, toList_some, toList_none, if_true, if_false, true_and, and_true, cond_true, sm0, sm1, sm1l, sm2, lc_lt, lc_gt, lc_eq, Int.toNat_natCast, Int.reduceToNat, Nat.reduceAdd, Nat.reduceEqDiff, Int.reduceLT, Int.reduceEq, Int.reduceNeg, Int.reduceAdd, Int.reduceMul, Nat.reduceMul, ms_n, ms_i, ms_l, ms_p, PM, fxM q1, q8, ex]
      rw [if_pos (by omega)]
      refine ⟨⟨by omega, by omega⟩, ?_⟩
      by_cases c : x = 25
      · rw [if_pos c]
        have fin := h1 (by rw [← hab', c]; exact List.mem_append_right _ List.mem_cons_self)
        first | exact fin | exact ⟨Or.inr rfl, fin⟩
      · rw [if_neg c]
        refine At.blk rfl rfl rfl fun sx => ?_
        simp (decide := true) only [RR, ms_app, toList_some, toList_none, if_true, if_false, true_and, and_true, cond_true, sm0, sm1, sm1l, sm2, lc_lt, lc_gt, lc_eq, Int.toNat_natCast, Int.reduceToNat, Nat.reduceAdd, Nat.reduceEqDiff, Int.reduceLT, Int.reduceEq, Int.reduceNeg, Int.reduceAdd, Int.reduceMul, Nat.reduceMul, ms_n, ms_i, ms_l, ms_p, PM, w1 ()]
        refine ih a' (x :: b) (by simpa using ha) hab' (fun y hy => ?_)
        rcases List.mem_cons.mp hy with rfl | hy
        · exact c
        · exact hb y hy
  exact loop ws.length ws [] rfl (List.append_nil _) (fun y hy => by cases hy)
theorem TG_three (h : QT σ N t 2 s g rc ws [] o) (hi : ¬IsSg N t s 93 ∨ 25 ∉ ws) (h1 : ∀ σ1, QT σ1 N t 2 s g rc ws [] o → PosA σ1 N t s g → Fr fqL fqT σ σ1 → At (d + 11) 255 3 [some (.inr (.inr 146))] [] σ1 (TGK d K)) : TG d K σ := by
  unfold TG
  refine At.blk rfl rfl rfl fun sx => ?_
  simp (decide := true) only [RR, ms_app, toList_some, toList_none, if_true, if_false, true_and, and_true, cond_true, sm0, sm1, sm1l, sm2, lc_lt, lc_gt, lc_eq, Int.toNat_natCast, Int.reduceToNat, Nat.reduceAdd, Nat.reduceEqDiff, Int.reduceLT, Int.reduceEq, Int.reduceNeg, Int.reduceAdd, Int.reduceMul, Nat.reduceMul, ms_n, ms_i, ms_l, ms_p, PM, h.1.2.2.1]
  refine cal_of rfl (m_look h.1.1 h.1.2.1 h.1.2.2.2.1 (fun σ1 f1 p1 => ?_))
  have q1 := h.lk f1 p1
  have three := h1 σ1 q1 p1 (f1.mono rfl)
  simp (decide := true) only [RR, ms_app, toList_some, toList_none, if_true, if_false, true_and, and_true, cond_true, sm0, sm1, sm1l, sm2, lc_lt, lc_gt, lc_eq, Int.toNat_natCast, Int.reduceToNat, Nat.reduceAdd, Nat.reduceEqDiff, Int.reduceLT, Int.reduceEq, Int.reduceNeg, Int.reduceAdd, Int.reduceMul, Nat.reduceMul, ms_n, ms_i, ms_l, ms_p, PM]
  by_cases ec : chr0 N t s = 93
  · rw [if_pos ec]
    refine cal_of rfl (m_qHasSquare q1 (fun hm => ?_) (fun hm => ?_))
    · exfalso
      rcases hi with hi | hi
      · unfold chr0 at ec
        by_cases c : s < N
        · rw [if_pos c] at ec; exact hi ⟨c, ec⟩
        · rw [if_neg c] at ec; omega
      · exact hi hm
    · simp (decide := true) only [RR, ms_app, toList_some, toList_none, if_true, if_false, true_and, and_true, cond_true, sm0, sm1, sm1l, sm2, lc_lt, lc_gt, lc_eq, Int.toNat_natCast, Int.reduceToNat, Nat.reduceAdd, Nat.reduceEqDiff, Int.reduceLT, Int.reduceEq, Int.reduceNeg, Int.reduceAdd, Int.reduceMul, Nat.reduceMul, ms_n, ms_i, ms_l, ms_p, PM]
      exact three
  · rw [if_neg ec]
    exact three
theorem TG_close {p : List Int} (hp : ∀ y ∈ p, y = 10 ∨ y = 11) (h : QT σ N t 2 s g rc (p ++ 25 :: ws) [] (o + 1)) (hi : IsSg N t s 93) (h1 : ∀ σ' s', QT σ' N t 2 s' false (p.reverse ++ rc) ws [] o → Skp N t (s + 1) s' → Fr fqL fqT σ σ' → TN d K σ') : TG d K σ := by
  obtain ⟨sN, n16⟩ := h.le
  have hlt := h.2.1
  have ho := h.2.2
  have hi1 := hi.1
  obtain ⟨s', hs'⟩ := skp_ex (N := N) (t := t) (N - (s + 1)) (s + 1) rfl (by omega)
  have hs1 := hs'.1
  have hs2 := hs'.2.1
  have w0 : Unit → w32 ((s : Int) + 1) = ((s + 1 : Nat) : Int) := fun _ => by rw [w32_small (by omega) (by omega)]; omega
  have w2 : Unit → w32 (((o + 1 : Nat) : Int) - 1) = (o : Int) := fun _ => by rw [w32_small (by omega) (by omega)]; omega
  have one : ∀ (p rc : List Int) (σ2 : mM), (∀ y ∈ p, y = 10 ∨ y = 11) → QT σ2 N t 2 s' false rc (p ++ 25 :: ws) [] (o + 1) → Fr fqL fqT σ σ2 → (∀ σ', QT σ' N t 2 s' false (p.reverse ++ rc) ws [] o → Fr fqL fqT σ σ' → TN d K σ') → At (d + 11) 255 1 [some (.inr (.inr 146))] [] σ2 (TGK d K) := by
    intro p
    induction p with
    | nil =>
      intro rc σ2 hp q2 f2 hfin
      refine At.blk rfl rfl rfl fun sx => ?_
      simp (decide := true) only [RR, ms_app, toList_some, toList_none, if_true, if_false, true_and, and_true, cond_true, sm0, sm1, sm1l, sm2, lc_lt, lc_gt, lc_eq, Int.toNat_natCast, Int.reduceToNat, Nat.reduceAdd, Nat.reduceEqDiff, Int.reduceLT, Int.reduceEq, Int.reduceNeg, Int.reduceAdd, Int.reduceMul, Nat.reduceMul, ms_n, ms_i, ms_l, ms_p, PM]
      refine cal_of rfl (m_qIsOn (by decide) q2.1 (fun _ => ?_) (fun hn => absurd rfl hn))
      have hltq := q2.2.1
      obtain ⟨g1, g2, g3, g4, g5, ⟨g6, g7⟩, ⟨g8, g9⟩, g10, g11, g12⟩ := q2.1
      rw [List.nil_append, List.cons_append] at g8 g9 g12 hltq
      simp only [List.length_cons, List.append_nil] at g8 g9 g12 hltq
      have w1 : Unit → w32 (((ws.length + 1 : Nat) : Int) - 1) = (ws.length : Int) := fun _ => by rw [w32_small (by omega) (by omega)]; omega
      simp (decide := true) only [RR, ms_app, toList_some, toList_none, if_true, if_false, true_and, and_true, cond_true, sm0, sm1, sm1l, sm2, lc_lt, lc_gt, lc_eq, Int.toNat_natCast, Int.reduceToNat, Nat.reduceAdd, Nat.reduceEqDiff, Int.reduceLT, Int.reduceEq, Int.reduceNeg, Int.reduceAdd, Int.reduceMul, Nat.reduceMul, ms_n, ms_i, ms_l, ms_p, PM]
      refine At.blk rfl rfl rfl fun sx => ?_
      simp (decide := true) only [RR, ms_app, toList_some, toList_none, if_true, if_false, true_and, and_true, cond_true, sm0, sm1, sm1l, sm2, lc_lt, lc_gt, lc_eq, Int.toNat_natCast, Int.reduceToNat, Nat.reduceAdd, Nat.reduceEqDiff, Int.reduceLT, Int.reduceEq, Int.reduceNeg, Int.reduceAdd, Int.reduceMul, Nat.reduceMul, ms_n, ms_i, ms_l, ms_p, PM, g8, w1 (), g10, w2 ()]
      have m4 : QT (mj_set (mj_set σ2 146 91 (ws.length : Int)) 146 92 (o : Int)) N t 2 s' false rc ws [] o := by
        refine ⟨⟨(g1.set rfl).set rfl, g2.cg rfl rfl, g3, g4.cg rfl rfl, g5, ⟨g6, g7.cg (fun k _ => rfl)⟩, ⟨?_, ?_⟩, rfl, g11, ?_⟩, ?_, by omega⟩
        · rw [List.append_nil]; rfl
        · rw [List.append_nil]; exact g9.2.cg (fun k _ => rfl)
        · rw [List.append_nil]; omega
        · rw [List.append_nil]; omega
      refine TN_go (dd := d + 5) (hfin _ m4 ((f2.set rfl).set rfl)) (fun σ5 e5 g5 => ?_)
      simp (decide := true) only [RR, ms_app, toList_some, toList_none, if_true, if_false, true_and, and_true, cond_true, sm0, sm1, sm1l, sm2, lc_lt, lc_gt, lc_eq, Int.toNat_natCast, Int.reduceToNat, Nat.reduceAdd, Nat.reduceEqDiff, Int.reduceLT, Int.reduceEq, Int.reduceNeg, Int.reduceAdd, Int.reduceMul, Nat.reduceMul, ms_n, ms_i, ms_l, ms_p, PM]
      exact g5
    | cons y p ih =>
      intro rc σ2 hp q2 f2 hfin
      have hy := hp y List.mem_cons_self
      have hltq := q2.2.1
      simp only [List.cons_append, List.length_cons] at hltq
      refine At.blk rfl rfl rfl fun sx => ?_
      simp (decide := true) only [RR, ms_app, toList_some, toList_none, if_true, if_false, true_and, and_true, cond_true, sm0, sm1, sm1l, sm2, lc_lt, lc_gt, lc_eq, Int.toNat_natCast, Int.reduceToNat, Nat.reduceAdd, Nat.reduceEqDiff, Int.reduceLT, Int.reduceEq, Int.reduceNeg, Int.reduceAdd, Int.reduceMul, Nat.reduceMul, ms_n, ms_i, ms_l, ms_p, PM]
      refine cal_of rfl (m_qIsOn (by decide) q2.1 (fun e => by have e : y = 25 := e; omega) (fun _ => ?_))
      simp (decide := true) only [RR, ms_app, toList_some, toList_none, if_true, if_false, true_and, and_true, cond_true, sm0, sm1, sm1l, sm2, lc_lt, lc_gt, lc_eq, Int.toNat_natCast, Int.reduceToNat, Nat.reduceAdd, Nat.reduceEqDiff, Int.reduceLT, Int.reduceEq, Int.reduceNeg, Int.reduceAdd, Int.reduceMul, Nat.reduceMul, ms_n, ms_i, ms_l, ms_p, PM]
      refine cal_of rfl (m_qDrops (x := y) (up := p ++ 25 :: ws) q2.1 (fun σ3 m3 f3 => ?_))
      simp (decide := true) only [RR, ms_app, toList_some, toList_none, if_true, if_false, true_and, and_true, cond_true, sm0, sm1, sm1l, sm2, lc_lt, lc_gt, lc_eq, Int.toNat_natCast, Int.reduceToNat, Nat.reduceAdd, Nat.reduceEqDiff, Int.reduceLT, Int.reduceEq, Int.reduceNeg, Int.reduceAdd, Int.reduceMul, Nat.reduceMul, ms_n, ms_i, ms_l, ms_p, PM]
      refine ih (y :: rc) σ3 (fun z hz => hp z (List.mem_cons_of_mem _ hz)) ⟨m3, by simp only [List.length_cons]; omega, ho⟩ (f2.trans f3) (fun σ4 q4 f4 => hfin σ4 ?_ f4)
      rw [List.reverse_cons, List.append_assoc]
      exact q4
  unfold TG
  refine At.blk rfl rfl rfl fun sx => ?_
  simp (decide := true) only [RR, ms_app, toList_some, toList_none, if_true, if_false, true_and, and_true, cond_true, sm0, sm1, sm1l, sm2, lc_lt, lc_gt, lc_eq, Int.toNat_natCast, Int.reduceToNat, Nat.reduceAdd, Nat.reduceEqDiff, Int.reduceLT, Int.reduceEq, Int.reduceNeg, Int.reduceAdd, Int.reduceMul, Nat.reduceMul, ms_n, ms_i, ms_l, ms_p, PM, h.1.2.2.1]
  refine cal_of rfl (m_look h.1.1 h.1.2.1 h.1.2.2.2.1 (fun σ1 f1 p1 => ?_))
  have q1 := h.lk f1 p1
  have ec : chr0 N t s = 93 := by unfold chr0; rw [if_pos hi1]; exact hi.2
  simp (decide := true) only [RR, ms_app, toList_some, toList_none, if_true, if_false, true_and, and_true, cond_true, sm0, sm1, sm1l, sm2, lc_lt, lc_gt, lc_eq, Int.toNat_natCast, Int.reduceToNat, Nat.reduceAdd, Nat.reduceEqDiff, Int.reduceLT, Int.reduceEq, Int.reduceNeg, Int.reduceAdd, Int.reduceMul, Nat.reduceMul, ms_n, ms_i, ms_l, ms_p, PM, ec]
  refine cal_of rfl (m_qHasSquare q1 (fun _ => ?_) (fun hm => absurd (List.mem_append_right _ List.mem_cons_self) hm))
  simp (decide := true) only [RR, ms_app, toList_some, toList_none, if_true, if_false, true_and, and_true, cond_true, sm0, sm1, sm1l, sm2, lc_lt, lc_gt, lc_eq, Int.toNat_natCast, Int.reduceToNat, Nat.reduceAdd, Nat.reduceEqDiff, Int.reduceLT, Int.reduceEq, Int.reduceNeg, Int.reduceAdd, Int.reduceMul, Nat.reduceMul, ms_n, ms_i, ms_l, ms_p, PM, p1.1, w0 ()]
  exact one p rc _ hp (q1.mv (Fr.same.set rfl) (p1.step hs') (by omega)) ((f1.mono rfl).set rfl) (fun σ' q' f' => h1 σ' s' q' hs' f')
theorem TG_and {p : List Int} {e : Nat} (hp : ∀ y ∈ p, y = 10) (hu : ∀ y : Int, y = 10 → ws.headD 0 ≠ y) (h : QT σ N t 2 s g rc (p ++ ws) [] o) (hi : IsWd N t s g e 19) (h1 : ∀ σ' s', QT σ' N t 2 s' (decide (s' = e)) (p.reverse ++ rc) (10 :: ws) [] o → Skp N t e s' → Fr fqL fqT σ σ' → TS d 1 K σ') : TG d K σ := by
  obtain ⟨sN, n16⟩ := h.le
  have hlt := h.2.1
  have hel := hi.lt (by decide)
  refine TG_three h (Or.inl (hi.noS (by unfold sgn; omega))) (fun σ1 q1 p1 f1 => ?_)
  have four : ∀ (p rc : List Int) (σ2 : mM) (s' : Nat), (∀ y ∈ p, y = 10) → QT σ2 N t 2 s' (decide (s' = e)) rc (p ++ ws) [] o → rc.length + (p ++ ws).length + 1 < s' → Fr fqL fqT σ σ2 → (∀ σ', QT σ' N t 2 s' (decide (s' = e)) (p.reverse ++ rc) (10 :: ws) [] o → Fr fqL fqT σ σ' → TS d 1 K σ') → At (d + 11) 255 4 [some (.inr (.inr 146))] [] σ2 (TGK d K) := by
    intro p
    induction p with
    | nil =>
      intro rc σ2 s' hp q2 hb f2 hfin
      obtain ⟨s'N, -⟩ := q2.le
      rw [List.nil_append] at q2 hb
      have e91 : σ2 146 91 = (ws.length : Int) := by have := q2.1.2.2.2.2.2.2.1.1; rw [List.append_nil] at this; exact this
      have w2 : Unit → w32 ((ws.length : Int) + 1) = ((ws.length + 1 : Nat) : Int) := fun _ => by rw [w32_small (by omega) (by omega)]; omega
      have m3 := q2.1.putW (v := 10) (by rw [List.append_nil]; omega)
      rw [List.append_nil] at m3
      have five : At (d + 11) 255 5 [some (.inr (.inr 146))] [] σ2 (TGK d K) := by
        refine At.blk rfl rfl rfl fun sx => ?_
        simp (decide := true) only [RR, ms_app, toList_some, toList_none, if_true, if_false, true_and, and_true, cond_true, sm0, sm1, sm1l, sm2, lc_lt, lc_gt, lc_eq, Int.toNat_natCast, Int.reduceToNat, Nat.reduceAdd, Nat.reduceEqDiff, Int.reduceLT, Int.reduceEq, Int.reduceNeg, Int.reduceAdd, Int.reduceMul, Nat.reduceMul, ms_n, ms_i, ms_l, ms_p, PM, fxM q2.1.1, e91, w2 ()]
        refine ⟨⟨by omega, by omega⟩, ?_⟩
        exact ⟨1, rfl, Or.inr rfl, hfin _ ⟨m3, by simp only [List.reverse_nil, List.nil_append, List.cons_append, List.length_cons, List.append_nil]; omega, q2.2.2⟩ ((f2.setr rfl).set rfl)⟩
      refine At.blk rfl rfl rfl fun sx => ?_
      simp (decide := true) only [RR, ms_app, toList_some, toList_none, if_true, if_false, true_and, and_true, cond_true, sm0, sm1, sm1l, sm2, lc_lt, lc_gt, lc_eq, Int.toNat_natCast, Int.reduceToNat, Nat.reduceAdd, Nat.reduceEqDiff, Int.reduceLT, Int.reduceEq, Int.reduceNeg, Int.reduceAdd, Int.reduceMul, Nat.reduceMul, ms_n, ms_i, ms_l, ms_p, PM]
      refine cal_of rfl (m_qIsOn (by decide) q2.1 (fun e2 => by rw [List.append_nil] at e2; exact absurd e2 (hu 10 (by omega))) (fun _ => ?_))
      simp (decide := true) only [RR, ms_app, toList_some, toList_none, if_true, if_false, true_and, and_true, cond_true, sm0, sm1, sm1l, sm2, lc_lt, lc_gt, lc_eq, Int.toNat_natCast, Int.reduceToNat, Nat.reduceAdd, Nat.reduceEqDiff, Int.reduceLT, Int.reduceEq, Int.reduceNeg, Int.reduceAdd, Int.reduceMul, Nat.reduceMul, ms_n, ms_i, ms_l, ms_p, PM]
      exact five
    | cons y p ih =>
      intro rc σ2 s' hp q2 hb f2 hfin
      have hy := hp y List.mem_cons_self
      simp only [List.cons_append, List.length_cons] at hb
      have drop : ∀ (K' : mK), (∀ σ3, At (d + 11) 255 4 [some (.inr (.inr 146))] [] σ3 (TGK d K) → K' none 218 σ3) → mj_cal (d + 11) 218 240 [.inr (.inr 146)] 218 σ2 K' := by
        intro K' hK'
        refine cal_of rfl (m_qDrops (x := y) (up := p ++ ws) q2.1 (fun σ3 m3 f3 => ?_))
        refine hK' σ3 (ih (y :: rc) σ3 s' (fun z hz => hp z (List.mem_cons_of_mem _ hz)) ⟨m3, by simp only [List.length_cons, List.append_nil]; omega, q2.2.2⟩ (by simp only [List.length_cons]; omega) (f2.trans f3) (fun σ4 q4 f4 => hfin σ4 ?_ f4))
        rw [List.reverse_cons, List.append_assoc]
        exact q4
      refine At.blk rfl rfl rfl fun sx => ?_
      simp (decide := true) only [RR, ms_app, toList_some, toList_none, if_true, if_false, true_and, and_true, cond_true, sm0, sm1, sm1l, sm2, lc_lt, lc_gt, lc_eq, Int.toNat_natCast, Int.reduceToNat, Nat.reduceAdd, Nat.reduceEqDiff, Int.reduceLT, Int.reduceEq, Int.reduceNeg, Int.reduceAdd, Int.reduceMul, Nat.reduceMul, ms_n, ms_i, ms_l, ms_p, PM]
      refine cal_of rfl (m_qIsOn (by decide) q2.1 (fun _ => ?_) (fun e2 => absurd hy e2))
      simp (decide := true) only [RR, ms_app, toList_some, toList_none, if_true, if_false, true_and, and_true, cond_true, sm0, sm1, sm1l, sm2, lc_lt, lc_gt, lc_eq, Int.toNat_natCast, Int.reduceToNat, Nat.reduceAdd, Nat.reduceEqDiff, Int.reduceLT, Int.reduceEq, Int.reduceNeg, Int.reduceAdd, Int.reduceMul, Nat.reduceMul, ms_n, ms_i, ms_l, ms_p, PM]
      exact drop _ (fun σ3 h3 => h3)
  refine At.blk rfl rfl rfl fun sx => ?_
  simp (decide := true) only [RR, ms_app, toList_some, toList_none, if_true, if_false, true_and, and_true, cond_true, sm0, sm1, sm1l, sm2, lc_lt, lc_gt, lc_eq, Int.toNat_natCast, Int.reduceToNat, Nat.reduceAdd, Nat.reduceEqDiff, Int.reduceLT, Int.reduceEq, Int.reduceNeg, Int.reduceAdd, Int.reduceMul, Nat.reduceMul, ms_n, ms_i, ms_l, ms_p, PM, fxM q1.1.1]
  refine cal_of rfl (m_takes (w := 19) (by decide) (wr_ask (201, 19) (by decide)) q1.1.1 q1.1.2.1 q1.1.2.2.1 q1.1.2.2.2.1 (fun σ3 e2 s' f3 hi3 k3 p3 => ?_) (fun σ3 f3 p3 hn => absurd hi (hn e)))
  obtain ⟨rfl, -⟩ := hi.uniq hi3 (by decide) (by decide)
  have hk := k3.1
  simp (decide := true) only [RR, ms_app, toList_some, toList_none, if_true, if_false, true_and, and_true, cond_true, sm0, sm1, sm1l, sm2, lc_lt, lc_gt, lc_eq, Int.toNat_natCast, Int.reduceToNat, Nat.reduceAdd, Nat.reduceEqDiff, Int.reduceLT, Int.reduceEq, Int.reduceNeg, Int.reduceAdd, Int.reduceMul, Nat.reduceMul, ms_n, ms_i, ms_l, ms_p, PM]
  exact four p rc σ3 s' hp (q1.mv f3 p3 (by omega)) (by simp only [List.append_nil] at hlt; omega) (f1.trans (f3.mono rfl)) (fun σ4 q4 f4 => h1 σ4 s' q4 k3 f4)
theorem TG_or {p : List Int} {e : Nat} (hp : ∀ y ∈ p, (y = 10 ∨ y = 11)) (hu : ∀ y : Int, (y = 10 ∨ y = 11) → ws.headD 0 ≠ y) (h : QT σ N t 2 s g rc (p ++ ws) [] o) (hi : IsWd N t s g e 18) (h1 : ∀ σ' s', QT σ' N t 2 s' (decide (s' = e)) (p.reverse ++ rc) (11 :: ws) [] o → Skp N t e s' → Fr fqL fqT σ σ' → TS d 1 K σ') : TG d K σ := by
  obtain ⟨sN, n16⟩ := h.le
  have hlt := h.2.1
  have hel := hi.lt (by decide)
  refine TG_three h (Or.inl (hi.noS (by unfold sgn; omega))) (fun σ1 q1 p1 f1 => ?_)
  have four : ∀ (p rc : List Int) (σ2 : mM) (s' : Nat), (∀ y ∈ p, (y = 10 ∨ y = 11)) → QT σ2 N t 2 s' (decide (s' = e)) rc (p ++ ws) [] o → rc.length + (p ++ ws).length + 1 < s' → Fr fqL fqT σ σ2 → (∀ σ', QT σ' N t 2 s' (decide (s' = e)) (p.reverse ++ rc) (11 :: ws) [] o → Fr fqL fqT σ σ' → TS d 1 K σ') → At (d + 11) 255 7 [some (.inr (.inr 146))] [] σ2 (TGK d K) := by
    intro p
    induction p with
    | nil =>
      intro rc σ2 s' hp q2 hb f2 hfin
      obtain ⟨s'N, -⟩ := q2.le
      rw [List.nil_append] at q2 hb
      have e91 : σ2 146 91 = (ws.length : Int) := by have := q2.1.2.2.2.2.2.2.1.1; rw [List.append_nil] at this; exact this
      have w2 : Unit → w32 ((ws.length : Int) + 1) = ((ws.length + 1 : Nat) : Int) := fun _ => by rw [w32_small (by omega) (by omega)]; omega
      have m3 := q2.1.putW (v := 11) (by rw [List.append_nil]; omega)
      rw [List.append_nil] at m3
      have five : At (d + 11) 255 9 [some (.inr (.inr 146))] [] σ2 (TGK d K) := by
        refine At.blk rfl rfl rfl fun sx => ?_
        simp (decide := true) only [RR, ms_app, toList_some, toList_none, if_true, if_false, true_and, and_true, cond_true, sm0, sm1, sm1l, sm2, lc_lt, lc_gt, lc_eq, Int.toNat_natCast, Int.reduceToNat, Nat.reduceAdd, Nat.reduceEqDiff, Int.reduceLT, Int.reduceEq, Int.reduceNeg, Int.reduceAdd, Int.reduceMul, Nat.reduceMul, ms_n, ms_i, ms_l, ms_p, PM, fxM q2.1.1, e91, w2 ()]
        refine ⟨⟨by omega, by omega⟩, ?_⟩
        exact ⟨1, rfl, Or.inr rfl, hfin _ ⟨m3, by simp only [List.reverse_nil, List.nil_append, List.cons_append, List.length_cons, List.append_nil]; omega, q2.2.2⟩ ((f2.setr rfl).set rfl)⟩
      refine At.blk rfl rfl rfl fun sx => ?_
      simp (decide := true) only [RR, ms_app, toList_some, toList_none, if_true, if_false, true_and, and_true, cond_true, sm0, sm1, sm1l, sm2, lc_lt, lc_gt, lc_eq, Int.toNat_natCast, Int.reduceToNat, Nat.reduceAdd, Nat.reduceEqDiff, Int.reduceLT, Int.reduceEq, Int.reduceNeg, Int.reduceAdd, Int.reduceMul, Nat.reduceMul, ms_n, ms_i, ms_l, ms_p, PM]
      refine cal_of rfl (m_qIsOn (by decide) q2.1 (fun e2 => by rw [List.append_nil] at e2; exact absurd e2 (hu 10 (by omega))) (fun _ => ?_))
      simp (decide := true) only [RR, ms_app, toList_some, toList_none, if_true, if_false, true_and, and_true, cond_true, sm0, sm1, sm1l, sm2, lc_lt, lc_gt, lc_eq, Int.toNat_natCast, Int.reduceToNat, Nat.reduceAdd, Nat.reduceEqDiff, Int.reduceLT, Int.reduceEq, Int.reduceNeg, Int.reduceAdd, Int.reduceMul, Nat.reduceMul, ms_n, ms_i, ms_l, ms_p, PM]
      refine cal_of rfl (m_qIsOn (by decide) q2.1 (fun e2 => by rw [List.append_nil] at e2; exact absurd e2 (hu 11 (by omega))) (fun _ => ?_))
      simp (decide := true) only [RR, ms_app, toList_some, toList_none, if_true, if_false, true_and, and_true, cond_true, sm0, sm1, sm1l, sm2, lc_lt, lc_gt, lc_eq, Int.toNat_natCast, Int.reduceToNat, Nat.reduceAdd, Nat.reduceEqDiff, Int.reduceLT, Int.reduceEq, Int.reduceNeg, Int.reduceAdd, Int.reduceMul, Nat.reduceMul, ms_n, ms_i, ms_l, ms_p, PM]
      exact five
    | cons y p ih =>
      intro rc σ2 s' hp q2 hb f2 hfin
      have hy := hp y List.mem_cons_self
      simp only [List.cons_append, List.length_cons] at hb
      have drop : ∀ (K' : mK), (∀ σ3, At (d + 11) 255 7 [some (.inr (.inr 146))] [] σ3 (TGK d K) → K' none 218 σ3) → mj_cal (d + 11) 218 240 [.inr (.inr 146)] 218 σ2 K' := by
        intro K' hK'
        refine cal_of rfl (m_qDrops (x := y) (up := p ++ ws) q2.1 (fun σ3 m3 f3 => ?_))
        refine hK' σ3 (ih (y :: rc) σ3 s' (fun z hz => hp z (List.mem_cons_of_mem _ hz)) ⟨m3, by simp only [List.length_cons, List.append_nil]; omega, q2.2.2⟩ (by simp only [List.length_cons]; omega) (f2.trans f3) (fun σ4 q4 f4 => hfin σ4 ?_ f4))
        rw [List.reverse_cons, List.append_assoc]
        exact q4
      have eight : At (d + 11) 255 8 [some (.inr (.inr 146))] [] σ2 (TGK d K) := by
        refine At.blk rfl rfl rfl fun sx => ?_
        simp (decide := true) only [RR, ms_app, toList_some, toList_none, if_true, if_false, true_and, and_true, cond_true, sm0, sm1, sm1l, sm2, lc_lt, lc_gt, lc_eq, Int.toNat_natCast, Int.reduceToNat, Nat.reduceAdd, Nat.reduceEqDiff, Int.reduceLT, Int.reduceEq, Int.reduceNeg, Int.reduceAdd, Int.reduceMul, Nat.reduceMul, ms_n, ms_i, ms_l, ms_p, PM]
        exact drop _ (fun σ3 h3 => h3)
      refine At.blk rfl rfl rfl fun sx => ?_
      simp (decide := true) only [RR, ms_app, toList_some, toList_none, if_true, if_false, true_and, and_true, cond_true, sm0, sm1, sm1l, sm2, lc_lt, lc_gt, lc_eq, Int.toNat_natCast, Int.reduceToNat, Nat.reduceAdd, Nat.reduceEqDiff, Int.reduceLT, Int.reduceEq, Int.reduceNeg, Int.reduceAdd, Int.reduceMul, Nat.reduceMul, ms_n, ms_i, ms_l, ms_p, PM]
      refine cal_of rfl (m_qIsOn (by decide) q2.1 (fun _ => ?_) (fun e2 => ?_))
      · simp (decide := true) only [RR, ms_app, toList_some, toList_none, if_true, if_false, true_and, and_true, cond_true, sm0, sm1, sm1l, sm2, lc_lt, lc_gt, lc_eq, Int.toNat_natCast, Int.reduceToNat, Nat.reduceAdd, Nat.reduceEqDiff, Int.reduceLT, Int.reduceEq, Int.reduceNeg, Int.reduceAdd, Int.reduceMul, Nat.reduceMul, ms_n, ms_i, ms_l, ms_p, PM]
        exact eight
      · simp (decide := true) only [RR, ms_app, toList_some, toList_none, if_true, if_false, true_and, and_true, cond_true, sm0, sm1, sm1l, sm2, lc_lt, lc_gt, lc_eq, Int.toNat_natCast, Int.reduceToNat, Nat.reduceAdd, Nat.reduceEqDiff, Int.reduceLT, Int.reduceEq, Int.reduceNeg, Int.reduceAdd, Int.reduceMul, Nat.reduceMul, ms_n, ms_i, ms_l, ms_p, PM]
        refine cal_of rfl (m_qIsOn (by decide) q2.1 (fun _ => ?_) (fun e3 => ?_))
        · simp (decide := true) only [RR, ms_app, toList_some, toList_none, if_true, if_false, true_and, and_true, cond_true, sm0, sm1, sm1l, sm2, lc_lt, lc_gt, lc_eq, Int.toNat_natCast, Int.reduceToNat, Nat.reduceAdd, Nat.reduceEqDiff, Int.reduceLT, Int.reduceEq, Int.reduceNeg, Int.reduceAdd, Int.reduceMul, Nat.reduceMul, ms_n, ms_i, ms_l, ms_p, PM]
          exact eight
        · exfalso
          have e2 : y ≠ 10 := e2
          have e3 : y ≠ 11 := e3
          omega
  refine At.blk rfl rfl rfl fun sx => ?_
  simp (decide := true) only [RR, ms_app, toList_some, toList_none, if_true, if_false, true_and, and_true, cond_true, sm0, sm1, sm1l, sm2, lc_lt, lc_gt, lc_eq, Int.toNat_natCast, Int.reduceToNat, Nat.reduceAdd, Nat.reduceEqDiff, Int.reduceLT, Int.reduceEq, Int.reduceNeg, Int.reduceAdd, Int.reduceMul, Nat.reduceMul, ms_n, ms_i, ms_l, ms_p, PM, fxM q1.1.1]
  refine cal_of rfl (m_takes (w := 19) (by decide) (wr_ask (201, 19) (by decide)) q1.1.1 q1.1.2.1 q1.1.2.2.1 q1.1.2.2.2.1 (fun σ2 e2 s' f2 hi2 k2 p2 => by exfalso; have := (hi.uniq hi2 (by decide) (by decide)).2; omega) (fun σ2 f2 p2 _ => ?_))
  have q1 := q1.lk f2 p2
  have f1 : Fr fqL fqT σ σ2 := f1.trans (f2.mono rfl)
  simp (decide := true) only [RR, ms_app, toList_some, toList_none, if_true, if_false, true_and, and_true, cond_true, sm0, sm1, sm1l, sm2, lc_lt, lc_gt, lc_eq, Int.toNat_natCast, Int.reduceToNat, Nat.reduceAdd, Nat.reduceEqDiff, Int.reduceLT, Int.reduceEq, Int.reduceNeg, Int.reduceAdd, Int.reduceMul, Nat.reduceMul, ms_n, ms_i, ms_l, ms_p, PM]
  refine At.blk rfl rfl rfl fun sx => ?_
  simp (decide := true) only [RR, ms_app, toList_some, toList_none, if_true, if_false, true_and, and_true, cond_true, sm0, sm1, sm1l, sm2, lc_lt, lc_gt, lc_eq, Int.toNat_natCast, Int.reduceToNat, Nat.reduceAdd, Nat.reduceEqDiff, Int.reduceLT, Int.reduceEq, Int.reduceNeg, Int.reduceAdd, Int.reduceMul, Nat.reduceMul, ms_n, ms_i, ms_l, ms_p, PM, fxM q1.1.1]
  refine cal_of rfl (m_takes (w := 18) (by decide) (wr_ask (202, 18) (by decide)) q1.1.1 q1.1.2.1 q1.1.2.2.1 q1.1.2.2.2.1 (fun σ3 e2 s' f3 hi3 k3 p3 => ?_) (fun σ3 f3 p3 hn => absurd hi (hn e)))
  obtain ⟨rfl, -⟩ := hi.uniq hi3 (by decide) (by decide)
  have hk := k3.1
  simp (decide := true) only [RR, ms_app, toList_some, toList_none, if_true, if_false, true_and, and_true, cond_true, sm0, sm1, sm1l, sm2, lc_lt, lc_gt, lc_eq, Int.toNat_natCast, Int.reduceToNat, Nat.reduceAdd, Nat.reduceEqDiff, Int.reduceLT, Int.reduceEq, Int.reduceNeg, Int.reduceAdd, Int.reduceMul, Nat.reduceMul, ms_n, ms_i, ms_l, ms_p, PM]
  exact four p rc σ3 s' hp (q1.mv f3 p3 (by omega)) (by simp only [List.append_nil] at hlt; omega) (f1.trans (f3.mono rfl)) (fun σ4 q4 f4 => h1 σ4 s' q4 k3 f4)
theorem TG_ten (h : QT σ N t 2 s g rc ws [] o) (hi : ¬IsSg N t s 93 ∨ 25 ∉ ws) (ha : ∀ e, ¬IsWd N t s g e 19) (hr : ∀ e, ¬IsWd N t s g e 18) (h1 : ∀ σ1, QT σ1 N t 2 s g rc ws [] o → PosA σ1 N t s g → Fr fqL fqT σ σ1 → At (d + 11) 255 10 [some (.inr (.inr 146))] [] σ1 (TGK d K)) : TG d K σ := by
  refine TG_three h hi (fun σ1 q1 p1 f1 => ?_)
  refine At.blk rfl rfl rfl fun sx => ?_
  simp (decide := true) only [RR, ms_app, toList_some, toList_none, if_true, if_false, true_and, and_true, cond_true, sm0, sm1, sm1l, sm2, lc_lt, lc_gt, lc_eq, Int.toNat_natCast, Int.reduceToNat, Nat.reduceAdd, Nat.reduceEqDiff, Int.reduceLT, Int.reduceEq, Int.reduceNeg, Int.reduceAdd, Int.reduceMul, Nat.reduceMul, ms_n, ms_i, ms_l, ms_p, PM, fxM q1.1.1]
  refine cal_of rfl (m_takes (w := 19) (by decide) (wr_ask (201, 19) (by decide)) q1.1.1 q1.1.2.1 q1.1.2.2.1 q1.1.2.2.2.1 (fun σ2 e2 s' f2 hi2 k2 p2 => absurd hi2 (ha e2)) (fun σ2 f2 p2 _ => ?_))
  have q2 := q1.lk f2 p2
  have f12 : Fr fqL fqT σ σ2 := f1.trans (f2.mono rfl)
  simp (decide := true) only [RR, ms_app, toList_some, toList_none, if_true, if_false, true_and, and_true, cond_true, sm0, sm1, sm1l, sm2, lc_lt, lc_gt, lc_eq, Int.toNat_natCast, Int.reduceToNat, Nat.reduceAdd, Nat.reduceEqDiff, Int.reduceLT, Int.reduceEq, Int.reduceNeg, Int.reduceAdd, Int.reduceMul, Nat.reduceMul, ms_n, ms_i, ms_l, ms_p, PM]
  refine At.blk rfl rfl rfl fun sx => ?_
  simp (decide := true) only [RR, ms_app, toList_some, toList_none, if_true, if_false, true_and, and_true, cond_true, sm0, sm1, sm1l, sm2, lc_lt, lc_gt, lc_eq, Int.toNat_natCast, Int.reduceToNat, Nat.reduceAdd, Nat.reduceEqDiff, Int.reduceLT, Int.reduceEq, Int.reduceNeg, Int.reduceAdd, Int.reduceMul, Nat.reduceMul, ms_n, ms_i, ms_l, ms_p, PM, fxM q2.1.1]
  refine cal_of rfl (m_takes (w := 18) (by decide) (wr_ask (202, 18) (by decide)) q2.1.1 q2.1.2.1 q2.1.2.2.1 q2.1.2.2.2.1 (fun σ3 e2 s' f3 hi3 k3 p3 => absurd hi3 (hr e2)) (fun σ3 f3 p3 _ => ?_))
  simp (decide := true) only [RR, ms_app, toList_some, toList_none, if_true, if_false, true_and, and_true, cond_true, sm0, sm1, sm1l, sm2, lc_lt, lc_gt, lc_eq, Int.toNat_natCast, Int.reduceToNat, Nat.reduceAdd, Nat.reduceEqDiff, Int.reduceLT, Int.reduceEq, Int.reduceNeg, Int.reduceAdd, Int.reduceMul, Nat.reduceMul, ms_n, ms_i, ms_l, ms_p, PM]
  exact h1 σ3 (q2.lk f3 p3) p3 (f12.trans (f3.mono rfl))
theorem TG_fail (h : QT σ N t 2 s g rc ws [] o) (hi : ¬IsSg N t s 93) (hm : 25 ∈ ws) (ha : ∀ e, ¬IsWd N t s g e 19) (hr : ∀ e, ¬IsWd N t s g e 18) (h0 : TB d K σ 1 (s : Int)) : TG d K σ := by
  refine TG_ten h (Or.inl hi) ha hr (fun σ1 q1 p1 f1 => ?_)
  refine At.blk rfl rfl rfl fun sx => ?_
  simp (decide := true) only [RR, ms_app, toList_some, toList_none, if_true, if_false, true_and, and_true, cond_true, sm0, sm1, sm1l, sm2, lc_lt, lc_gt, lc_eq, Int.toNat_natCast, Int.reduceToNat, Nat.reduceAdd, Nat.reduceEqDiff, Int.reduceLT, Int.reduceEq, Int.reduceNeg, Int.reduceAdd, Int.reduceMul, Nat.reduceMul, ms_n, ms_i, ms_l, ms_p, PM, q1.1.2.2.1]
  refine cal_of rfl (m_qHasSquare q1 (fun _ => ?_) (fun hn => absurd hm hn))
  simp (decide := true) only [RR, ms_app, toList_some, toList_none, if_true, if_false, true_and, and_true, cond_true, sm0, sm1, sm1l, sm2, lc_lt, lc_gt, lc_eq, Int.toNat_natCast, Int.reduceToNat, Nat.reduceAdd, Nat.reduceEqDiff, Int.reduceLT, Int.reduceEq, Int.reduceNeg, Int.reduceAdd, Int.reduceMul, Nat.reduceMul, ms_n, ms_i, ms_l, ms_p, PM, p1.1]
  refine cal_of rfl (m_fail q1.1.2.2.1 ?_)
  simp (decide := true) only [RR, ms_app, toList_some, toList_none, if_true, if_false, true_and, and_true, cond_true, sm0, sm1, sm1l, sm2, lc_lt, lc_gt, lc_eq, Int.toNat_natCast, Int.reduceToNat, Nat.reduceAdd, Nat.reduceEqDiff, Int.reduceLT, Int.reduceEq, Int.reduceNeg, Int.reduceAdd, Int.reduceMul, Nat.reduceMul, ms_n, ms_i, ms_l, ms_p, PM]
  refine At.blk rfl rfl rfl fun sx => ?_
  simp (decide := true) only [RR, ms_app, toList_some, toList_none, if_true, if_false, true_and, and_true, cond_true, sm0, sm1, sm1l, sm2, lc_lt, lc_gt, lc_eq, Int.toNat_natCast, Int.reduceToNat, Nat.reduceAdd, Nat.reduceEqDiff, Int.reduceLT, Int.reduceEq, Int.reduceNeg, Int.reduceAdd, Int.reduceMul, Nat.reduceMul, ms_n, ms_i, ms_l, ms_p, PM]
  exact ⟨0, rfl, Or.inl rfl, h0.2 _ 0 rfl rfl ((f1.set rfl).set rfl)⟩
theorem TG_fin (h : QT σ N t 2 s g rc ws [] o) (hm : 25 ∉ ws) (ha : ∀ e, ¬IsWd N t s g e 19) (hr : ∀ e, ¬IsWd N t s g e 18) (h1 : ∀ σ1, QT σ1 N t 2 s g rc ws [] o → PosA σ1 N t s g → Fr fqL fqT σ σ1 → TS d 0 K σ1) : TG d K σ := by
  refine TG_ten h (Or.inr hm) ha hr (fun σ1 q1 p1 f1 => ?_)
  refine At.blk rfl rfl rfl fun sx => ?_
  simp (decide := true) only [RR, ms_app, toList_some, toList_none, if_true, if_false, true_and, and_true, cond_true, sm0, sm1, sm1l, sm2, lc_lt, lc_gt, lc_eq, Int.toNat_natCast, Int.reduceToNat, Nat.reduceAdd, Nat.reduceEqDiff, Int.reduceLT, Int.reduceEq, Int.reduceNeg, Int.reduceAdd, Int.reduceMul, Nat.reduceMul, ms_n, ms_i, ms_l, ms_p, PM, q1.1.2.2.1]
  refine cal_of rfl (m_qHasSquare q1 (fun hn => absurd hn hm) (fun _ => ?_))
  simp (decide := true) only [RR, ms_app, toList_some, toList_none, if_true, if_false, true_and, and_true, cond_true, sm0, sm1, sm1l, sm2, lc_lt, lc_gt, lc_eq, Int.toNat_natCast, Int.reduceToNat, Nat.reduceAdd, Nat.reduceEqDiff, Int.reduceLT, Int.reduceEq, Int.reduceNeg, Int.reduceAdd, Int.reduceMul, Nat.reduceMul, ms_n, ms_i, ms_l, ms_p, PM]
  refine At.blk rfl rfl rfl fun sx => ?_
  simp (decide := true) only [RR, ms_app, toList_some, toList_none, if_true, if_false, true_and, and_true, cond_true, sm0, sm1, sm1l, sm2, lc_lt, lc_gt, lc_eq, Int.toNat_natCast, Int.reduceToNat, Nat.reduceAdd, Nat.reduceEqDiff, Int.reduceLT, Int.reduceEq, Int.reduceNeg, Int.reduceAdd, Int.reduceMul, Nat.reduceMul, ms_n, ms_i, ms_l, ms_p, PM]
  exact ⟨0, rfl, Or.inl rfl, h1 σ1 q1 p1 f1⟩
end
