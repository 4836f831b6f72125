/-! the model's sums: what waits, what is coded -/
def fqL : List Nat := [214, 215]
def fqT : List (Nat × Nat) := [(146, 2), (146, 4), (146, 5), (146, 6), (146, 89), (146, 91), (146, 92), (146, 93)]
def QmS (σ : mM) (N : Nat) (t : Nat → Int) (tk : Int) (s : Nat) (g : Bool) (rc up dn : List Int) (o : Nat) : Prop := Fix σ ∧ TxM σ N t ∧ σ 146 5 = 0 ∧ PosM σ N t s g ∧ (σ 146 46 = tk ∧ σ 146 6 = -1) ∧ (σ 146 89 = (rc.length : Int) ∧ Stk σ 214 rc) ∧ (σ 146 91 = ((up ++ dn).length : Int) ∧ Stk σ 215 (up ++ dn)) ∧ σ 146 92 = (o : Int) ∧ σ 146 93 = (dn.length : Int) ∧ rc.length + (up ++ dn).length ≤ s
def brk : List Int → Int
  | [] => -1
  | x :: l => if 20 ≤ x ∧ x ≤ 24 then x else brk l
section
variable {d : Nat} {σ σ0 : mM} {K : Option mV → mM → Prop} {N : Nat} {t : Nat → Int} {tk : Int} {s : Nat} {g : Bool} {rc up dn : List Int} {o : Nat}
theorem PosM.le (h : PosM σ N t s g) : s ≤ N := by
  obtain ⟨⟨i, -, h⟩, -⟩ := h
  exact h.2.1
theorem QmS.mv {σ' : mM} {s' : Nat} {g' : Bool} (h : QmS σ N t tk s g rc up dn o) (f : Fr [] tmT σ σ') (hp : PosM σ' N t s' g') (hs : s ≤ s') : QmS σ' N t tk s' g' rc up dn o := by
  obtain ⟨h1, h2, h3, h4, h5, ⟨h6, h7⟩, ⟨h8, h9⟩, h10, h11, h12⟩ := h
  exact ⟨h1.fr f rfl, h2.ms (f.mono rfl), (f 146 5 rfl).trans h3, hp, ⟨(f 146 46 rfl).trans h5.1, (f 146 6 rfl).trans h5.2⟩, ⟨(f 146 89 rfl).trans h6, h7.cg (fun k _ => f 214 k rfl)⟩, ⟨(f 146 91 rfl).trans h8, h9.cg (fun k _ => f 215 k rfl)⟩, (f 146 92 rfl).trans h10, (f 146 93 rfl).trans h11, by omega⟩
theorem QmS.lk {σ' : mM} (h : QmS σ N t tk s g rc up dn o) (f : Fr [] lkT σ σ') (hp : PosA σ' N t s g) : QmS σ' N t tk s g rc up dn o := h.mv (f.mono rfl) hp.pos (Nat.le_refl _)
theorem QmS.code {v : Int} (h : QmS σ N t tk s g rc up dn o) (hr : rc.length + 1 + (up ++ dn).length ≤ s) : QmS (mj_set (mj_set σ 214 rc.length v) 146 89 ((rc.length + 1 : Nat) : Int)) N t tk s g (v :: rc) up dn o := by
  obtain ⟨h1, h2, h3, h4, h5, ⟨h6, h7⟩, ⟨h8, h9⟩, h10, h11, h12⟩ := h
  refine ⟨(h1.set rfl).set rfl, h2.cg rfl rfl, h3, h4.cg rfl rfl, h5, ⟨rfl, ?_⟩, ⟨h8, h9.cg (fun k _ => rfl)⟩, h10, h11, by simp only [List.length_cons]; omega⟩
  exact (h7.push (x := v)).cg (fun k _ => rfl)
theorem m_qCode {v : Int} {n : Nat} (hF : Fix σ) (hn : σ 146 89 = (n : Int)) (hn2 : n < 1700) (hK : K none (mj_set (mj_set σ 214 n v) 146 89 ((n + 1 : Nat) : Int))) : Mt (d + 1) 237 [.inr (.inr 146), .inl v] σ K := by
  refine Mt.go (lv := [some (.inr (.inr 146)), some (.inl v)]) rfl rfl rfl ?_
  have w1 : Unit → w32 ((n : Int) + 1) = ((n + 1 : Nat) : Int) := fun _ => by rw [w32_small (by omega) (by omega)]; omega
  refine At.blk rfl rfl rfl fun sx => ?_
  simp (decide := true) only [RR, ms_app, toList_some, toList_none, if_true, if_false, true_and, and_true, cond_true, sm0, sm1, sm1l, sm2, lc_lt, lc_gt, lc_eq, Int.toNat_natCast, Int.reduceToNat, Nat.reduceAdd, Nat.reduceEqDiff, Int.reduceLT, Int.reduceEq, Int.reduceNeg, Int.reduceAdd, Int.reduceMul, Nat.reduceMul, ms_n, ms_i, ms_l, ms_p, PM, fxM hF, hn, w1 ()]
  exact ⟨⟨by omega, by omega⟩, hK⟩
theorem m_qIsOn {v : Int} (hv : v ≠ 0) (h : QmS σ N t tk s g rc up dn o) (h1 : (up ++ dn).headD 0 = v → K (some (.inl 1)) σ) (h0 : (up ++ dn).headD 0 ≠ v → K (some (.inl 0)) σ) : Mt (d + 1) 239 [.inr (.inr 146), .inl v] σ K := by
  refine Mt.go (lv := [some (.inr (.inr 146)), some (.inl v)]) rfl rfl rfl ?_
  have sN := h.2.2.2.1.le
  have n16 := h.2.1.2.1
  obtain ⟨q1, -, -, -, -, -, ⟨q8, q9⟩, -, -, q12⟩ := h
  have no : (up ++ dn).headD 0 ≠ v → At d 239 1 [some (.inr (.inr 146)), some (.inl v)] [] σ K := by
    intro h
    refine At.blk rfl rfl rfl fun sx => ?_
    simp (decide := true) only [RR, ms_app, toList_some, toList_none, if_true, if_false, true_and, and_true, cond_true, sm0, sm1, sm1l, sm2, lc_lt, lc_gt, lc_eq, Int.toNat_natCast, Int.reduceToNat, Nat.reduceAdd, Nat.reduceEqDiff, Int.reduceLT, Int.reduceEq, Int.reduceNeg, Int.reduceAdd, Int.reduceMul, Nat.reduceMul, ms_n, ms_i, ms_l, ms_p, PM]
    refine At.blk rfl rfl rfl fun sx => ?_
    simp (decide := true) only [RR, ms_app, toList_some, toList_none, if_true, if_false, true_and, and_true, cond_true, sm0, sm1, sm1l, sm2, lc_lt, lc_gt, lc_eq, Int.toNat_natCast, Int.reduceToNat, Nat.reduceAdd, Nat.reduceEqDiff, Int.reduceLT, Int.reduceEq, Int.reduceNeg, Int.reduceAdd, Int.reduceMul, Nat.reduceMul, ms_n, ms_i, ms_l, ms_p, PM]
    exact h0 h
  generalize up ++ dn = ws at *
  cases ws with
  | nil =>
    refine At.blk rfl rfl rfl fun sx => ?_
    simp (decide := true) only [RR, ms_app, toList_some, toList_none, if_true, if_false, true_and, and_true, cond_true, sm0, sm1, sm1l, sm2, lc_lt, lc_gt, lc_eq, Int.toNat_natCast, Int.reduceToNat, Nat.reduceAdd, Nat.reduceEqDiff, Int.reduceLT, Int.reduceEq, Int.reduceNeg, Int.reduceAdd, Int.reduceMul, Nat.reduceMul, ms_n, ms_i, ms_l, ms_p, PM, q8]
    first | exact no (Ne.symm hv) | (rw [if_neg (by simp)]; exact no (Ne.symm hv))
  | cons x l =>
    have w1 : Unit → w32 (((x :: l).length : Int) - 1) = (l.length : Int) := fun _ => by
      simp only [List.length_cons] at q12 ⊢
      rw [w32_small (by omega) (by omega)]; omega
    have ex : σ 215 l.length = x := q9.1
    refine At.blk rfl rfl rfl fun sx => ?_
    simp (decide := true) only [RR, ms_app, toList_some, toList_none, if_true, if_false, true_and, and_true, cond_true, sm0, sm1, sm1l, sm2, lc_lt, lc_gt, lc_eq, Int.toNat_natCast, Int.reduceToNat, Nat.reduceAdd, Nat.reduceEqDiff, Int.reduceLT, Int.reduceEq, Int.reduceNeg, Int.reduceAdd, Int.reduceMul, Nat.reduceMul, ms_n, ms_i, ms_l, ms_p, PM, fxM q1, q8, w1 (), ex]
    rw [if_pos (by simp only [List.length_cons]; omega)]
    simp only [List.length_cons] at q12
    refine ⟨⟨by omega, by omega⟩, ?_⟩
    by_cases c : x = v
    · rw [if_pos c]
      refine At.blk rfl rfl rfl fun sx => ?_
      simp (decide := true) only [RR, ms_app, toList_some, toList_none, if_true, if_false, true_and, and_true, cond_true, sm0, sm1, sm1l, sm2, lc_lt, lc_gt, lc_eq, Int.toNat_natCast, Int.reduceToNat, Nat.reduceAdd, Nat.reduceEqDiff, Int.reduceLT, Int.reduceEq, Int.reduceNeg, Int.reduceAdd, Int.reduceMul, Nat.reduceMul, ms_n, ms_i, ms_l, ms_p, PM]
      exact h1 c
    · rw [if_neg c]
      exact no c
theorem m_qDrops {x : Int} (h : QmS σ N t tk s g rc (x :: up) dn o) (hK : ∀ σ', QmS σ' N t tk s g (x :: rc) up dn o → Fr fqL fqT σ σ' → K none σ') : Mt (d + 2) 240 [.inr (.inr 146)] σ K := by
  refine Mt.go (lv := [some (.inr (.inr 146))]) rfl rfl rfl ?_
  have sN := h.2.2.2.1.le
  obtain ⟨h1, h2, h3, h4, h5, ⟨h6, h7⟩, ⟨h8, h9⟩, h10, h11, h12⟩ := h
  have n16 := h2.2.1
  rw [List.cons_append] at h8 h9 h12
  simp only [List.length_cons] at h8 h12
  have w1 : Unit → w32 (((((up ++ dn).length + 1 : Nat)) : Int) - 1) = ((up ++ dn).length : Int) := fun _ => by
    rw [w32_small (by omega) (by omega)]; omega
  have ex : σ 215 (up ++ dn).length = x := h9.1
  refine At.blk rfl rfl rfl fun sx => ?_
  simp (decide := true) only [RR, ms_app, toList_some, toList_none, if_true, if_false, true_and, and_true, cond_true, sm0, sm1, sm1l, sm2, lc_lt, lc_gt, lc_eq, Int.toNat_natCast, Int.reduceToNat, Nat.reduceAdd, Nat.reduceEqDiff, Int.reduceLT, Int.reduceEq, Int.reduceNeg, Int.reduceAdd, Int.reduceMul, Nat.reduceMul, ms_n, ms_i, ms_l, ms_p, PM, fxM h1, h8, w1 (), ex]
  refine ⟨⟨by omega, by omega⟩, ?_⟩
  have hF1 : Fix (mj_set σ 146 91 ((up ++ dn).length : Int)) := h1.set rfl
  refine cal_of rfl (m_qCode (n := rc.length) hF1 h6 (by omega) ?_)
  simp (decide := true) only [RR, ms_app, toList_some, toList_none, if_true, if_false, true_and, and_true, cond_true, sm0, sm1, sm1l, sm2, lc_lt, lc_gt, lc_eq, Int.toNat_natCast, Int.reduceToNat, Nat.reduceAdd, Nat.reduceEqDiff, Int.reduceLT, Int.reduceEq, Int.reduceNeg, Int.reduceAdd, Int.reduceMul, Nat.reduceMul, ms_n, ms_i, ms_l, ms_p, PM]
  refine hK _ ⟨(hF1.set rfl).set rfl, h2.cg rfl rfl, h3, h4.cg rfl rfl, h5, ⟨rfl, ?_⟩, ⟨rfl, h9.2.cg (fun k _ => rfl)⟩, h10, h11, by simp only [List.length_cons]; omega⟩ (((Fr.same.set rfl).setr rfl).set rfl)
  exact ((h7.cg (σ' := mj_set σ 146 91 ((up ++ dn).length : Int)) (fun k _ => rfl)).push (x := x)).cg (fun k _ => rfl)
theorem m_isBracket {v : Int} (h1 : 20 ≤ v ∧ v ≤ 24 → K (some (.inl 1)) σ) (h0 : ¬(20 ≤ v ∧ v ≤ 24) → K (some (.inl 0)) σ) : Mt (d + 1) 241 [.inl v] σ K := by
  refine Mt.go (lv := [some (.inl v)]) rfl rfl rfl ?_
  repeat' (first | (exact h1 (by omega)) | (exact h0 (by omega)) | (refine ⟨⟨by omega, by omega⟩, ?_⟩) | split | (refine At.blk rfl rfl rfl fun sx => ?_; simp (decide := true) only [RR, ms_app, toList_some, toList_none, if_true, if_false, true_and, and_true, cond_true, sm0, sm1, sm1l, sm2, lc_lt, lc_gt, lc_eq, Int.toNat_natCast, Int.reduceToNat, Nat.reduceAdd, Nat.reduceEqDiff, Int.reduceLT, Int.reduceEq, Int.reduceNeg, Int.reduceAdd, Int.reduceMul, Nat.reduceMul, ms_n, ms_i, ms_l, ms_p, PM]))
theorem Stk.get {q : Nat} : ∀ {a b : List Int} {x : Int}, Stk σ q (a ++ x :: b) → σ q b.length = x
  | [], b, x, h => h.1
  | y :: a, b, x, h => Stk.get (a := a) h.2
theorem m_qBracket (h : QmS σ N t tk s g rc up dn o) (hK : K (some (.inl (brk up))) σ) : Mt (d + 2) 242 [.inr (.inr 146)] σ K := by
  refine Mt.go (lv := [some (.inr (.inr 146)), none]) rfl rfl rfl ?_
  have sN := h.2.2.2.1.le
  obtain ⟨q1, q2, -, -, -, -, ⟨q8, q9⟩, -, q11, q12⟩ := h
  have n16 := q2.2.1
  have hl : (up ++ dn).length = up.length + dn.length := List.length_append
  have w1 : Unit → w32 (((up ++ dn).length : Int) - 1) = (up.length : Int) + dn.length - 1 := fun _ => by
    rw [w32_small (by omega) (by omega)]; omega
  refine At.blk rfl rfl rfl fun sx => ?_
  simp (decide := true) only [RR, ms_app, toList_some, toList_none, if_true, if_false, true_and, and_true, cond_true, sm0, sm1, sm1l, sm2, lc_lt, lc_gt, lc_eq, Int.toNat_natCast, Int.reduceToNat, Nat.reduceAdd, Nat.reduceEqDiff, Int.reduceLT, Int.reduceEq, Int.reduceNeg, Int.reduceAdd, Int.reduceMul, Nat.reduceMul, ms_n, ms_i, ms_l, ms_p, PM, q8, w1 ()]
  have loop : ∀ a b : List Int, a ++ b = up → brk b = brk up → At (d + 1) 242 1 [some (.inr (.inr 146)), some (.inl ((b.length : Int) + dn.length - 1))] [] σ K := by
    intro a b
    induction b generalizing a with
    | nil =>
      intro e1 e2
      refine At.blk rfl rfl rfl fun sx => ?_
      simp (decide := true) only [RR, ms_app, toList_some, toList_none, if_true, if_false, true_and, and_true, cond_true, sm0, sm1, sm1l, sm2, lc_lt, lc_gt, lc_eq, Int.toNat_natCast, Int.reduceToNat, Nat.reduceAdd, Nat.reduceEqDiff, Int.reduceLT, Int.reduceEq, Int.reduceNeg, Int.reduceAdd, Int.reduceMul, Nat.reduceMul, ms_n, ms_i, ms_l, ms_p, PM, q11]
      rw [if_pos (by simp only [List.length_nil]; omega)]
      refine At.blk rfl rfl rfl fun sx => ?_
      simp (decide := true) only [RR, ms_app, toList_some, toList_none, if_true, if_false, true_and, and_true, cond_true, sm0, sm1, sm1l, sm2, lc_lt, lc_gt, lc_eq, Int.toNat_natCast, Int.reduceToNat, Nat.reduceAdd, Nat.reduceEqDiff, Int.reduceLT, Int.reduceEq, Int.reduceNeg, Int.reduceAdd, Int.reduceMul, Nat.reduceMul, ms_n, ms_i, ms_l, ms_p, PM, q11]
      rw [if_pos (by simp only [List.length_nil]; omega)]
      refine At.blk rfl rfl rfl fun sx => ?_
      simp (decide := true) only [RR, ms_app, toList_some, toList_none, if_true, if_false, true_and, and_true, cond_true, sm0, sm1, sm1l, sm2, lc_lt, lc_gt, lc_eq, Int.toNat_natCast, Int.reduceToNat, Nat.reduceAdd, Nat.reduceEqDiff, Int.reduceLT, Int.reduceEq, Int.reduceNeg, Int.reduceAdd, Int.reduceMul, Nat.reduceMul, ms_n, ms_i, ms_l, ms_p, PM]
      refine At.blk rfl rfl rfl fun sx => ?_
      simp (decide := true) only [RR, ms_app, toList_some, toList_none, if_true, if_false, true_and, and_true, cond_true, sm0, sm1, sm1l, sm2, lc_lt, lc_gt, lc_eq, Int.toNat_natCast, Int.reduceToNat, Nat.reduceAdd, Nat.reduceEqDiff, Int.reduceLT, Int.reduceEq, Int.reduceNeg, Int.reduceAdd, Int.reduceMul, Nat.reduceMul, ms_n, ms_i, ms_l, ms_p, PM]
      rw [← e2] at hK
      exact hK
    | cons x b ih =>
      intro e1 e2
      have hlen : up.length = a.length + (b.length + 1) := by rw [← e1]; simp
      have w2 : Unit → w32 (((b.length + 1 : Nat) : Int) + dn.length - 1 + -1) = (b.length : Int) + dn.length - 1 := fun _ => by rw [w32_small (by omega) (by omega)]; omega
      have ej : (((b.length + 1 : Nat) : Int) + dn.length - 1).toNat = (b ++ dn).length := by rw [List.length_append]; omega
      have ex : σ 215 (b ++ dn).length = x := by
        refine Stk.get (a := a) ?_
        rw [← List.cons_append, ← List.append_assoc, e1]
        exact q9
      simp only [List.length_cons]
      refine At.blk rfl rfl rfl fun sx => ?_
      simp (decide := true) only [RR, ms_app, toList_some, toList_none, if_true, if_false, true_and, and_true, cond_true, sm0, sm1, sm1l, sm2, lc_lt, lc_gt, lc_eq, Int.toNat_natCast, Int.reduceToNat, Nat.reduceAdd, Nat.reduceEqDiff, Int.reduceLT, Int.reduceEq, Int.reduceNeg, Int.reduceAdd, Int.reduceMul, Nat.reduceMul, ms_n, ms_i, ms_l, ms_p, PM, fxM q1, q11, ej, ex]
      rw [if_neg (by omega)]
      refine ⟨⟨by omega, by omega⟩, ?_⟩
      refine cal_of rfl (m_isBracket (fun hx => ?_) (fun hx => ?_))
      · simp (decide := true) only [RR, ms_app, toList_some, toList_none, if_true, if_false, true_and, and_true, cond_true, sm0, sm1, sm1l, sm2, lc_lt, lc_gt, lc_eq, Int.toNat_natCast, Int.reduceToNat, Nat.reduceAdd, Nat.reduceEqDiff, Int.reduceLT, Int.reduceEq, Int.reduceNeg, Int.reduceAdd, Int.reduceMul, Nat.reduceMul, ms_n, ms_i, ms_l, ms_p, PM]
        refine At.blk rfl rfl rfl fun sx => ?_
        simp (decide := true) only [RR, ms_app, toList_some, toList_none, if_true, if_false, true_and, and_true, cond_true, sm0, sm1, sm1l, sm2, lc_lt, lc_gt, lc_eq, Int.toNat_natCast, Int.reduceToNat, Nat.reduceAdd, Nat.reduceEqDiff, Int.reduceLT, Int.reduceEq, Int.reduceNeg, Int.reduceAdd, Int.reduceMul, Nat.reduceMul, ms_n, ms_i, ms_l, ms_p, PM, fxM q1, q11, ej, ex]
        rw [if_neg (by omega)]
        refine ⟨⟨by omega, by omega⟩, ?_⟩
        refine At.blk rfl rfl rfl fun sx => ?_
        simp (decide := true) only [RR, ms_app, toList_some, toList_none, if_true, if_false, true_and, and_true, cond_true, sm0, sm1, sm1l, sm2, lc_lt, lc_gt, lc_eq, Int.toNat_natCast, Int.reduceToNat, Nat.reduceAdd, Nat.reduceEqDiff, Int.reduceLT, Int.reduceEq, Int.reduceNeg, Int.reduceAdd, Int.reduceMul, Nat.reduceMul, ms_n, ms_i, ms_l, ms_p, PM]
        rw [← e2] at hK
        unfold brk at hK
        rw [if_pos hx] at hK
        exact hK
      · simp (decide := true) only [RR, ms_app, toList_some, toList_none, if_true, if_false, true_and, and_true, cond_true, sm0, sm1, sm1l, sm2, lc_lt, lc_gt, lc_eq, Int.toNat_natCast, Int.reduceToNat, Nat.reduceAdd, Nat.reduceEqDiff, Int.reduceLT, Int.reduceEq, Int.reduceNeg, Int.reduceAdd, Int.reduceMul, Nat.reduceMul, ms_n, ms_i, ms_l, ms_p, PM, w2 ()]
        refine ih (a ++ [x]) (by rw [List.append_assoc]; exact e1) ?_
        rw [← e2]
        show _ = (if 20 ≤ x ∧ x ≤ 24 then x else brk b)
        rw [if_neg hx]
  exact loop [] up rfl rfl
theorem m_qDropsToBracket {x : Int} (hx : 20 ≤ x ∧ x ≤ 24) : ∀ {p : List Int} {rc : List Int} {σ : mM} {K : Option mV → mM → Prop}, (∀ y ∈ p, ¬(20 ≤ y ∧ y ≤ 24)) → QmS σ N t tk s g rc (p ++ x :: up) dn o → (∀ σ', QmS σ' N t tk s g (p.reverse ++ rc) (x :: up) dn o → Fr fqL fqT σ σ' → K none σ') → Mt (d + 3) 243 [.inr (.inr 146)] σ K := by
  intro p rc σ K hp h hK
  refine Mt.go (lv := [some (.inr (.inr 146))]) rfl rfl rfl ?_
  have loop : ∀ (p rc : List Int) (σ' : mM), (∀ y ∈ p, ¬(20 ≤ y ∧ y ≤ 24)) → QmS σ' N t tk s g rc (p ++ x :: up) dn o → Fr fqL fqT σ σ' → (∀ σ', QmS σ' N t tk s g (p.reverse ++ rc) (x :: up) dn o → Fr fqL fqT σ σ' → K none σ') → At (d + 2) 243 0 [some (.inr (.inr 146))] [] σ' K := by
    intro p
    induction p with
    | nil =>
      intro rc σ' hp h f hK
      have sN := h.2.2.2.1.le
      have h' := h
      obtain ⟨q1, q2, -, -, -, -, ⟨q8, q9⟩, -, q11, q12⟩ := h
      have n16 := q2.2.1
      rw [List.nil_append, List.cons_append] at q8 q9 q12
      simp only [List.length_cons] at q8 q12
      have hl : (up ++ dn).length = up.length + dn.length := List.length_append
      have w1 : Unit → w32 ((((up ++ dn).length + 1 : Nat) : Int) - 1) = ((up ++ dn).length : Int) := fun _ => by rw [w32_small (by omega) (by omega)]; omega
      have ex : σ' 215 (up ++ dn).length = x := q9.1
      refine At.blk rfl rfl rfl fun sx => ?_
      simp (decide := true) only [RR, ms_app, toList_some, toList_none, if_true, if_false, true_and, and_true, cond_true, sm0, sm1, sm1l, sm2, lc_lt, lc_gt, lc_eq, Int.toNat_natCast, Int.reduceToNat, Nat.reduceAdd, Nat.reduceEqDiff, Int.reduceLT, Int.reduceEq, Int.reduceNeg, Int.reduceAdd, Int.reduceMul, Nat.reduceMul, ms_n, ms_i, ms_l, ms_p, PM, fxM q1, q8, q11, w1 (), ex]
      rw [if_pos (by omega)]
      refine ⟨⟨by omega, by omega⟩, ?_⟩
      refine cal_of rfl (m_isBracket (fun _ => ?_) (fun hn => absurd hx hn))
      simp (decide := true) only [RR, ms_app, toList_some, toList_none, if_true, if_false, true_and, and_true, cond_true, sm0, sm1, sm1l, sm2, lc_lt, lc_gt, lc_eq, Int.toNat_natCast, Int.reduceToNat, Nat.reduceAdd, Nat.reduceEqDiff, Int.reduceLT, Int.reduceEq, Int.reduceNeg, Int.reduceAdd, Int.reduceMul, Nat.reduceMul, ms_n, ms_i, ms_l, ms_p, PM]
      refine At.blk rfl rfl rfl fun sx => ?_
      simp (decide := true) only [RR, ms_app, toList_some, toList_none, if_true, if_false, true_and, and_true, cond_true, sm0, sm1, sm1l, sm2, lc_lt, lc_gt, lc_eq, Int.toNat_natCast, Int.reduceToNat, Nat.reduceAdd, Nat.reduceEqDiff, Int.reduceLT, Int.reduceEq, Int.reduceNeg, Int.reduceAdd, Int.reduceMul, Nat.reduceMul, ms_n, ms_i, ms_l, ms_p, PM]
      exact hK σ' h' f
    | cons y p ih =>
      intro rc σ' hp h f hK
      have sN := h.2.2.2.1.le
      have h' := h
      obtain ⟨q1, q2, -, -, -, -, ⟨q8, q9⟩, -, q11, q12⟩ := h
      have n16 := q2.2.1
      rw [List.cons_append, List.cons_append] at q8 q9 q12
      simp only [List.length_cons] at q8 q12
      have hl : (p ++ x :: up ++ dn).length = p.length + (up.length + 1) + dn.length := by simp [List.length_append]; omega
      have w1 : Unit → w32 ((((p ++ x :: up ++ dn).length + 1 : Nat) : Int) - 1) = ((p ++ x :: up ++ dn).length : Int) := fun _ => by rw [w32_small (by omega) (by omega)]; omega
      have ex : σ' 215 (p ++ x :: up ++ dn).length = y := q9.1
      refine At.blk rfl rfl rfl fun sx => ?_
      simp (decide := true) only [RR, ms_app, toList_some, toList_none, if_true, if_false, true_and, and_true, cond_true, sm0, sm1, sm1l, sm2, lc_lt, lc_gt, lc_eq, Int.toNat_natCast, Int.reduceToNat, Nat.reduceAdd, Nat.reduceEqDiff, Int.reduceLT, Int.reduceEq, Int.reduceNeg, Int.reduceAdd, Int.reduceMul, Nat.reduceMul, ms_n, ms_i, ms_l, ms_p, PM, fxM q1, q8, q11, w1 (), ex]
      rw [if_pos (by omega)]
      refine ⟨⟨by omega, by omega⟩, ?_⟩
      refine cal_of rfl (m_isBracket (fun hy => absurd hy (hp y List.mem_cons_self)) (fun _ => ?_))
      simp (decide := true) only [RR, ms_app, toList_some, toList_none, if_true, if_false, true_and, and_true, cond_true, sm0, sm1, sm1l, sm2, lc_lt, lc_gt, lc_eq, Int.toNat_natCast, Int.reduceToNat, Nat.reduceAdd, Nat.reduceEqDiff, Int.reduceLT, Int.reduceEq, Int.reduceNeg, Int.reduceAdd, Int.reduceMul, Nat.reduceMul, ms_n, ms_i, ms_l, ms_p, PM]
      refine cal_of rfl (m_qDrops h' (fun σ2 m2 f2 => ?_))
      simp (decide := true) only [RR, ms_app, toList_some, toList_none, if_true, if_false, true_and, and_true, cond_true, sm0, sm1, sm1l, sm2, lc_lt, lc_gt, lc_eq, Int.toNat_natCast, Int.reduceToNat, Nat.reduceAdd, Nat.reduceEqDiff, Int.reduceLT, Int.reduceEq, Int.reduceNeg, Int.reduceAdd, Int.reduceMul, Nat.reduceMul, ms_n, ms_i, ms_l, ms_p, PM]
      refine ih (y :: rc) σ2 (fun z hz => hp z (List.mem_cons_of_mem _ hz)) m2 (f.trans f2) (fun σ3 m3 f3 => hK σ3 ?_ f3)
      rw [List.reverse_cons, List.append_assoc]
      exact m3
  exact loop p rc σ hp h Fr.same hK
theorem m_qOpens {v p : Int} (h : QmS σ N t tk s g rc up dn o) (ho : o ≤ 6) (hr : rc.length + (up ++ dn).length + 1 ≤ 1699) (h1 : o < 6 → K none (mj_set (mj_set (mj_set σ 146 92 ((o + 1 : Nat) : Int)) 215 (up ++ dn).length v) 146 91 (((up ++ dn).length + 1 : Nat) : Int))) (h0 : o = 6 → K none (mj_set (mj_set σ 146 5 4) 146 6 p)) : Mt (d + 2) 238 [.inr (.inr 146), .inl v, .inl p] σ K := by
  refine Mt.go (lv := [some (.inr (.inr 146)), some (.inl v), some (.inl p)]) rfl rfl rfl ?_
  obtain ⟨q1, q2, q3, -, -, -, ⟨q8, q9⟩, q10, q11, q12⟩ := h
  have w1 : Unit → w32 ((o : Int) + 1) = ((o + 1 : Nat) : Int) := fun _ => by rw [w32_small (by omega) (by omega)]; omega
  have w2 : Unit → w32 (((up ++ dn).length : Int) + 1) = (((up ++ dn).length + 1 : Nat) : Int) := fun _ => by rw [w32_small (by omega) (by omega)]; omega
  refine At.blk rfl rfl rfl fun sx => ?_
  simp (decide := true) only [RR, ms_app, toList_some, toList_none, if_true, if_false, true_and, and_true, cond_true, sm0, sm1, sm1l, sm2, lc_lt, lc_gt, lc_eq, Int.toNat_natCast, Int.reduceToNat, Nat.reduceAdd, Nat.reduceEqDiff, Int.reduceLT, Int.reduceEq, Int.reduceNeg, Int.reduceAdd, Int.reduceMul, Nat.reduceMul, ms_n, ms_i, ms_l, ms_p, PM, q3]
  refine At.blk rfl rfl rfl fun sx => ?_
  simp (decide := true) only [RR, ms_app, toList_some, toList_none, if_true, if_false, true_and, and_true, cond_true, sm0, sm1, sm1l, sm2, lc_lt, lc_gt, lc_eq, Int.toNat_natCast, Int.reduceToNat, Nat.reduceAdd, Nat.reduceEqDiff, Int.reduceLT, Int.reduceEq, Int.reduceNeg, Int.reduceAdd, Int.reduceMul, Nat.reduceMul, ms_n, ms_i, ms_l, ms_p, PM, q10]
  by_cases c : o = 6
  · rw [if_pos (by omega)]
    refine cal_of rfl (m_fail q3 ?_)
    simp (decide := true) only [RR, ms_app, toList_some, toList_none, if_true, if_false, true_and, and_true, cond_true, sm0, sm1, sm1l, sm2, lc_lt, lc_gt, lc_eq, Int.toNat_natCast, Int.reduceToNat, Nat.reduceAdd, Nat.reduceEqDiff, Int.reduceLT, Int.reduceEq, Int.reduceNeg, Int.reduceAdd, Int.reduceMul, Nat.reduceMul, ms_n, ms_i, ms_l, ms_p, PM]
    exact h0 c
  · rw [if_neg (by omega)]
    refine At.blk rfl rfl rfl fun sx => ?_
    simp (decide := true) only [RR, ms_app, toList_some, toList_none, if_true, if_false, true_and, and_true, cond_true, sm0, sm1, sm1l, sm2, lc_lt, lc_gt, lc_eq, Int.toNat_natCast, Int.reduceToNat, Nat.reduceAdd, Nat.reduceEqDiff, Int.reduceLT, Int.reduceEq, Int.reduceNeg, Int.reduceAdd, Int.reduceMul, Nat.reduceMul, ms_n, ms_i, ms_l, ms_p, PM, q10, w1 (), fxM q1, q8, w2 ()]
    exact ⟨⟨by omega, by omega⟩, h1 (by omega)⟩
theorem QmS.opn {v : Int} (h : QmS σ N t tk s g rc up dn o) (hr : rc.length + (up ++ dn).length + 1 ≤ s) : QmS (mj_set (mj_set (mj_set σ 146 92 ((o + 1 : Nat) : Int)) 215 (up ++ dn).length v) 146 91 (((up ++ dn).length + 1 : Nat) : Int)) N t tk s g rc (v :: up) dn (o + 1) := by
  obtain ⟨h1, h2, h3, h4, h5, ⟨h6, h7⟩, ⟨h8, h9⟩, h10, h11, h12⟩ := h
  refine ⟨((h1.set rfl).set rfl).set rfl, h2.cg rfl rfl, h3, h4.cg rfl rfl, h5, ⟨h6, h7.cg (fun k _ => rfl)⟩, ⟨rfl, ?_⟩, rfl, h11, by simp only [List.cons_append, List.length_cons]; omega⟩
  exact ((h9.cg (σ' := mj_set σ 146 92 ((o + 1 : Nat) : Int)) (fun k _ => rfl)).push (x := v)).cg (fun k _ => rfl)
end
/-! words of a sum -/
def vw (j : Nat) : Nat := if j = 0 then 1 else if j = 1 then 10 else if j = 2 then 11 else if j = 3 then 12 else if j = 4 then 13 else if j = 5 then 14 else if j = 6 then 15 else if j = 7 then 3 else if j = 8 then 4 else 2
def alw (tk : Int) (j : Nat) : Prop := tk = 2 ∨ (j : Int) < (if tk = 0 then 5 else 6)
section
variable {d : Nat} {σ σ0 : mM} {K : Option mV → mM → Prop} {N : Nat} {t : Nat → Int} {tk : Int} {s : Nat} {g : Bool}
def WK (N : Nat) (t : Nat → Int) (s : Nat) (g : Bool) (k : Int) : Prop := (k = -1 ∧ ∀ j, j < 10 → ∀ e, ¬IsWd N t s g e (vw j)) ∨ ∃ j : Nat, j < 10 ∧ k = (j : Int) ∧ ∃ e, IsWd N t s g e (vw j)
theorem m_qWordHere (hF : Fix σ) (hT : TxM σ N t) (hb : σ 146 5 = 0) (hP : PosM σ N t s g) (hK : ∀ σ' k, Fr [] lkT σ σ' → PosA σ' N t s g → WK N t s g k → K (some (.inl k)) σ') : Mt (d + 3) 244 [.inr (.inr 146)] σ K := by
  refine Mt.go (lv := [some (.inr (.inr 146))]) rfl rfl rfl ?_
  have b10 : ∀ σ', Fr [] lkT σ σ' → PosA σ' N t s g → (∀ j, j < 10 → ∀ e, ¬IsWd N t s g e (vw j)) → At (d + 2) 244 10 [some (.inr (.inr 146))] [] σ' K := by
    intro σ' f p h
    refine At.blk rfl rfl rfl fun sx => ?_
    simp (decide := true) only [RR, ms_app, toList_some, toList_none, if_true, if_false, true_and, and_true, cond_true, sm0, sm1, sm1l, sm2, lc_lt, lc_gt, lc_eq, Int.toNat_natCast, Int.reduceToNat, Nat.reduceAdd, Nat.reduceEqDiff, Int.reduceLT, Int.reduceEq, Int.reduceNeg, Int.reduceAdd, Int.reduceMul, Nat.reduceMul, ms_n, ms_i, ms_l, ms_p, PM]
    exact hK σ' _ f p (Or.inl ⟨rfl, h⟩)
  have b9 : ∀ σ', Fr [] lkT σ σ' → PosM σ' N t s g → (∀ j, j < 9 → ∀ e, ¬IsWd N t s g e (vw j)) → At (d + 2) 244 9 [some (.inr (.inr 146))] [] σ' K := by
    intro σ' f p h
    have hF' := hF.fr f rfl
    refine At.blk rfl rfl rfl fun sx => ?_
    simp (decide := true) only [RR, ms_app, toList_some, toList_none, if_true, if_false, true_and, and_true, cond_true, sm0, sm1, sm1l, sm2, lc_lt, lc_gt, lc_eq, Int.toNat_natCast, Int.reduceToNat, Nat.reduceAdd, Nat.reduceEqDiff, Int.reduceLT, Int.reduceEq, Int.reduceNeg, Int.reduceAdd, Int.reduceMul, Nat.reduceMul, ms_n, ms_i, ms_l, ms_p, PM, fxM hF']
    refine cal_of rfl (m_isHere (w := 2) (wr_ask (213, 2) (by decide)) hF' (hT.ms (f.mono rfl)) ((f 146 5 rfl).trans hb) p (fun σ1 e f1 p1 hi => ?_) (fun σ1 f1 p1 hi => ?_))
    · simp (decide := true) only [RR, ms_app, toList_some, toList_none, if_true, if_false, true_and, and_true, cond_true, sm0, sm1, sm1l, sm2, lc_lt, lc_gt, lc_eq, Int.toNat_natCast, Int.reduceToNat, Nat.reduceAdd, Nat.reduceEqDiff, Int.reduceLT, Int.reduceEq, Int.reduceNeg, Int.reduceAdd, Int.reduceMul, Nat.reduceMul, ms_n, ms_i, ms_l, ms_p, PM]
      exact hK σ1 _ (f.trans f1) p1 (Or.inr ⟨9, by decide, rfl, e, hi⟩)
    · simp (decide := true) only [RR, ms_app, toList_some, toList_none, if_true, if_false, true_and, and_true, cond_true, sm0, sm1, sm1l, sm2, lc_lt, lc_gt, lc_eq, Int.toNat_natCast, Int.reduceToNat, Nat.reduceAdd, Nat.reduceEqDiff, Int.reduceLT, Int.reduceEq, Int.reduceNeg, Int.reduceAdd, Int.reduceMul, Nat.reduceMul, ms_n, ms_i, ms_l, ms_p, PM]
      refine b10 σ1 (f.trans f1) (by first | exact p1 | exact p1.pos) (fun j hj e => ?_)
      by_cases e1 : j = 9
      · rw [e1]; exact hi e
      · exact h j (by omega) e
  have b8 : ∀ σ', Fr [] lkT σ σ' → PosM σ' N t s g → (∀ j, j < 8 → ∀ e, ¬IsWd N t s g e (vw j)) → At (d + 2) 244 8 [some (.inr (.inr 146))] [] σ' K := by
    intro σ' f p h
    have hF' := hF.fr f rfl
    refine At.blk rfl rfl rfl fun sx => ?_
    simp (decide := true) only [RR, ms_app, toList_some, toList_none, if_true, if_false, true_and, and_true, cond_true, sm0, sm1, sm1l, sm2, lc_lt, lc_gt, lc_eq, Int.toNat_natCast, Int.reduceToNat, Nat.reduceAdd, Nat.reduceEqDiff, Int.reduceLT, Int.reduceEq, Int.reduceNeg, Int.reduceAdd, Int.reduceMul, Nat.reduceMul, ms_n, ms_i, ms_l, ms_p, PM, fxM hF']
    refine cal_of rfl (m_isHere (w := 4) (wr_ask (212, 4) (by decide)) hF' (hT.ms (f.mono rfl)) ((f 146 5 rfl).trans hb) p (fun σ1 e f1 p1 hi => ?_) (fun σ1 f1 p1 hi => ?_))
    · simp (decide := true) only [RR, ms_app, toList_some, toList_none, if_true, if_false, true_and, and_true, cond_true, sm0, sm1, sm1l, sm2, lc_lt, lc_gt, lc_eq, Int.toNat_natCast, Int.reduceToNat, Nat.reduceAdd, Nat.reduceEqDiff, Int.reduceLT, Int.reduceEq, Int.reduceNeg, Int.reduceAdd, Int.reduceMul, Nat.reduceMul, ms_n, ms_i, ms_l, ms_p, PM]
      exact hK σ1 _ (f.trans f1) p1 (Or.inr ⟨8, by decide, rfl, e, hi⟩)
    · simp (decide := true) only [RR, ms_app, toList_some, toList_none, if_true, if_false, true_and, and_true, cond_true, sm0, sm1, sm1l, sm2, lc_lt, lc_gt, lc_eq, Int.toNat_natCast, Int.reduceToNat, Nat.reduceAdd, Nat.reduceEqDiff, Int.reduceLT, Int.reduceEq, Int.reduceNeg, Int.reduceAdd, Int.reduceMul, Nat.reduceMul, ms_n, ms_i, ms_l, ms_p, PM]
      refine b9 σ1 (f.trans f1) (by first | exact p1 | exact p1.pos) (fun j hj e => ?_)
      by_cases e1 : j = 8
      · rw [e1]; exact hi e
      · exact h j (by omega) e
  have b7 : ∀ σ', Fr [] lkT σ σ' → PosM σ' N t s g → (∀ j, j < 7 → ∀ e, ¬IsWd N t s g e (vw j)) → At (d + 2) 244 7 [some (.inr (.inr 146))] [] σ' K := by
    intro σ' f p h
    have hF' := hF.fr f rfl
    refine At.blk rfl rfl rfl fun sx => ?_
    simp (decide := true) only [RR, ms_app, toList_some, toList_none, if_true, if_false, true_and, and_true, cond_true, sm0, sm1, sm1l, sm2, lc_lt, lc_gt, lc_eq, Int.toNat_natCast, Int.reduceToNat, Nat.reduceAdd, Nat.reduceEqDiff, Int.reduceLT, Int.reduceEq, Int.reduceNeg, Int.reduceAdd, Int.reduceMul, Nat.reduceMul, ms_n, ms_i, ms_l, ms_p, PM, fxM hF']
    refine cal_of rfl (m_isHere (w := 3) (wr_ask (211, 3) (by decide)) hF' (hT.ms (f.mono rfl)) ((f 146 5 rfl).trans hb) p (fun σ1 e f1 p1 hi => ?_) (fun σ1 f1 p1 hi => ?_))
    · simp (decide := true) only [RR, ms_app, toList_some, toList_none, if_true, if_false, true_and, and_true, cond_true, sm0, sm1, sm1l, sm2, lc_lt, lc_gt, lc_eq, Int.toNat_natCast, Int.reduceToNat, Nat.reduceAdd, Nat.reduceEqDiff, Int.reduceLT, Int.reduceEq, Int.reduceNeg, Int.reduceAdd, Int.reduceMul, Nat.reduceMul, ms_n, ms_i, ms_l, ms_p, PM]
      exact hK σ1 _ (f.trans f1) p1 (Or.inr ⟨7, by decide, rfl, e, hi⟩)
    · simp (decide := true) only [RR, ms_app, toList_some, toList_none, if_true, if_false, true_and, and_true, cond_true, sm0, sm1, sm1l, sm2, lc_lt, lc_gt, lc_eq, Int.toNat_natCast, Int.reduceToNat, Nat.reduceAdd, Nat.reduceEqDiff, Int.reduceLT, Int.reduceEq, Int.reduceNeg, Int.reduceAdd, Int.reduceMul, Nat.reduceMul, ms_n, ms_i, ms_l, ms_p, PM]
      refine b8 σ1 (f.trans f1) (by first | exact p1 | exact p1.pos) (fun j hj e => ?_)
      by_cases e1 : j = 7
      · rw [e1]; exact hi e
      · exact h j (by omega) e
  have b6 : ∀ σ', Fr [] lkT σ σ' → PosM σ' N t s g → (∀ j, j < 6 → ∀ e, ¬IsWd N t s g e (vw j)) → At (d + 2) 244 6 [some (.inr (.inr 146))] [] σ' K := by
    intro σ' f p h
    have hF' := hF.fr f rfl
    refine At.blk rfl rfl rfl fun sx => ?_
    simp (decide := true) only [RR, ms_app, toList_some, toList_none, if_true, if_false, true_and, and_true, cond_true, sm0, sm1, sm1l, sm2, lc_lt, lc_gt, lc_eq, Int.toNat_natCast, Int.reduceToNat, Nat.reduceAdd, Nat.reduceEqDiff, Int.reduceLT, Int.reduceEq, Int.reduceNeg, Int.reduceAdd, Int.reduceMul, Nat.reduceMul, ms_n, ms_i, ms_l, ms_p, PM, fxM hF']
    refine cal_of rfl (m_isHere (w := 15) (wr_ask (210, 15) (by decide)) hF' (hT.ms (f.mono rfl)) ((f 146 5 rfl).trans hb) p (fun σ1 e f1 p1 hi => ?_) (fun σ1 f1 p1 hi => ?_))
    · simp (decide := true) only [RR, ms_app, toList_some, toList_none, if_true, if_false, true_and, and_true, cond_true, sm0, sm1, sm1l, sm2, lc_lt, lc_gt, lc_eq, Int.toNat_natCast, Int.reduceToNat, Nat.reduceAdd, Nat.reduceEqDiff, Int.reduceLT, Int.reduceEq, Int.reduceNeg, Int.reduceAdd, Int.reduceMul, Nat.reduceMul, ms_n, ms_i, ms_l, ms_p, PM]
      exact hK σ1 _ (f.trans f1) p1 (Or.inr ⟨6, by decide, rfl, e, hi⟩)
    · simp (decide := true) only [RR, ms_app, toList_some, toList_none, if_true, if_false, true_and, and_true, cond_true, sm0, sm1, sm1l, sm2, lc_lt, lc_gt, lc_eq, Int.toNat_natCast, Int.reduceToNat, Nat.reduceAdd, Nat.reduceEqDiff, Int.reduceLT, Int.reduceEq, Int.reduceNeg, Int.reduceAdd, Int.reduceMul, Nat.reduceMul, ms_n, ms_i, ms_l, ms_p, PM]
      refine b7 σ1 (f.trans f1) (by first | exact p1 | exact p1.pos) (fun j hj e => ?_)
      by_cases e1 : j = 6
      · rw [e1]; exact hi e
      · exact h j (by omega) e
  have b5 : ∀ σ', Fr [] lkT σ σ' → PosM σ' N t s g → (∀ j, j < 5 → ∀ e, ¬IsWd N t s g e (vw j)) → At (d + 2) 244 5 [some (.inr (.inr 146))] [] σ' K := by
    intro σ' f p h
    have hF' := hF.fr f rfl
    refine At.blk rfl rfl rfl fun sx => ?_
    simp (decide := true) only [RR, ms_app, toList_some, toList_none, if_true, if_false, true_and, and_true, cond_true, sm0, sm1, sm1l, sm2, lc_lt, lc_gt, lc_eq, Int.toNat_natCast, Int.reduceToNat, Nat.reduceAdd, Nat.reduceEqDiff, Int.reduceLT, Int.reduceEq, Int.reduceNeg, Int.reduceAdd, Int.reduceMul, Nat.reduceMul, ms_n, ms_i, ms_l, ms_p, PM, fxM hF']
    refine cal_of rfl (m_isHere (w := 14) (wr_ask (209, 14) (by decide)) hF' (hT.ms (f.mono rfl)) ((f 146 5 rfl).trans hb) p (fun σ1 e f1 p1 hi => ?_) (fun σ1 f1 p1 hi => ?_))
    · simp (decide := true) only [RR, ms_app, toList_some, toList_none, if_true, if_false, true_and, and_true, cond_true, sm0, sm1, sm1l, sm2, lc_lt, lc_gt, lc_eq, Int.toNat_natCast, Int.reduceToNat, Nat.reduceAdd, Nat.reduceEqDiff, Int.reduceLT, Int.reduceEq, Int.reduceNeg, Int.reduceAdd, Int.reduceMul, Nat.reduceMul, ms_n, ms_i, ms_l, ms_p, PM]
      exact hK σ1 _ (f.trans f1) p1 (Or.inr ⟨5, by decide, rfl, e, hi⟩)
    · simp (decide := true) only [RR, ms_app, toList_some, toList_none, if_true, if_false, true_and, and_true, cond_true, sm0, sm1, sm1l, sm2, lc_lt, lc_gt, lc_eq, Int.toNat_natCast, Int.reduceToNat, Nat.reduceAdd, Nat.reduceEqDiff, Int.reduceLT, Int.reduceEq, Int.reduceNeg, Int.reduceAdd, Int.reduceMul, Nat.reduceMul, ms_n, ms_i, ms_l, ms_p, PM]
      refine b6 σ1 (f.trans f1) (by first | exact p1 | exact p1.pos) (fun j hj e => ?_)
      by_cases e1 : j = 5
      · rw [e1]; exact hi e
      · exact h j (by omega) e
  have b4 : ∀ σ', Fr [] lkT σ σ' → PosM σ' N t s g → (∀ j, j < 4 → ∀ e, ¬IsWd N t s g e (vw j)) → At (d + 2) 244 4 [some (.inr (.inr 146))] [] σ' K := by
    intro σ' f p h
    have hF' := hF.fr f rfl
    refine At.blk rfl rfl rfl fun sx => ?_
    simp (decide := true) only [RR, ms_app, toList_some, toList_none, if_true, if_false, true_and, and_true, cond_true, sm0, sm1, sm1l, sm2, lc_lt, lc_gt, lc_eq, Int.toNat_natCast, Int.reduceToNat, Nat.reduceAdd, Nat.reduceEqDiff, Int.reduceLT, Int.reduceEq, Int.reduceNeg, Int.reduceAdd, Int.reduceMul, Nat.reduceMul, ms_n, ms_i, ms_l, ms_p, PM, fxM hF']
    refine cal_of rfl (m_isHere (w := 13) (wr_ask (208, 13) (by decide)) hF' (hT.ms (f.mono rfl)) ((f 146 5 rfl).trans hb) p (fun σ1 e f1 p1 hi => ?_) (fun σ1 f1 p1 hi => ?_))
    · simp (decide := true) only [RR, ms_app, toList_some, toList_none, if_true, if_false, true_and, and_true, cond_true, sm0, sm1, sm1l, sm2, lc_lt, lc_gt, lc_eq, Int.toNat_natCast, Int.reduceToNat, Nat.reduceAdd, Nat.reduceEqDiff, Int.reduceLT, Int.reduceEq, Int.reduceNeg, Int.reduceAdd, Int.reduceMul, Nat.reduceMul, ms_n, ms_i, ms_l, ms_p, PM]
      exact hK σ1 _ (f.trans f1) p1 (Or.inr ⟨4, by decide, rfl, e, hi⟩)
    · simp (decide := true) only [RR, ms_app, toList_some, toList_none, if_true, if_false, true_and, and_true, cond_true, sm0, sm1, sm1l, sm2, lc_lt, lc_gt, lc_eq, Int.toNat_natCast, Int.reduceToNat, Nat.reduceAdd, Nat.reduceEqDiff, Int.reduceLT, Int.reduceEq, Int.reduceNeg, Int.reduceAdd, Int.reduceMul, Nat.reduceMul, ms_n, ms_i, ms_l, ms_p, PM]
      refine b5 σ1 (f.trans f1) (by first | exact p1 | exact p1.pos) (fun j hj e => ?_)
      by_cases e1 : j = 4
      · rw [e1]; exact hi e
      · exact h j (by omega) e
  have b3 : ∀ σ', Fr [] lkT σ σ' → PosM σ' N t s g → (∀ j, j < 3 → ∀ e, ¬IsWd N t s g e (vw j)) → At (d + 2) 244 3 [some (.inr (.inr 146))] [] σ' K := by
    intro σ' f p h
    have hF' := hF.fr f rfl
    refine At.blk rfl rfl rfl fun sx => ?_
    simp (decide := true) only [RR, ms_app, toList_some, toList_none, if_true, if_false, true_and, and_true, cond_true, sm0, sm1, sm1l, sm2, lc_lt, lc_gt, lc_eq, Int.toNat_natCast, Int.reduceToNat, Nat.reduceAdd, Nat.reduceEqDiff, Int.reduceLT, Int.reduceEq, Int.reduceNeg, Int.reduceAdd, Int.reduceMul, Nat.reduceMul, ms_n, ms_i, ms_l, ms_p, PM, fxM hF']
    refine cal_of rfl (m_isHere (w := 12) (wr_ask (207, 12) (by decide)) hF' (hT.ms (f.mono rfl)) ((f 146 5 rfl).trans hb) p (fun σ1 e f1 p1 hi => ?_) (fun σ1 f1 p1 hi => ?_))
    · simp (decide := true) only [RR, ms_app, toList_some, toList_none, if_true, if_false, true_and, and_true, cond_true, sm0, sm1, sm1l, sm2, lc_lt, lc_gt, lc_eq, Int.toNat_natCast, Int.reduceToNat, Nat.reduceAdd, Nat.reduceEqDiff, Int.reduceLT, Int.reduceEq, Int.reduceNeg, Int.reduceAdd, Int.reduceMul, Nat.reduceMul, ms_n, ms_i, ms_l, ms_p, PM]
      exact hK σ1 _ (f.trans f1) p1 (Or.inr ⟨3, by decide, rfl, e, hi⟩)
    · simp (decide := true) only [RR, ms_app, toList_some, toList_none, if_true, if_false, true_and, and_true, cond_true, sm0, sm1, sm1l, sm2, lc_lt, lc_gt, lc_eq, Int.toNat_natCast, Int.reduceToNat, Nat.reduceAdd, Nat.reduceEqDiff, Int.reduceLT, Int.reduceEq, Int.reduceNeg, Int.reduceAdd, Int.reduceMul, Nat.reduceMul, ms_n, ms_i, ms_l, ms_p, PM]
      refine b4 σ1 (f.trans f1) (by first | exact p1 | exact p1.pos) (fun j hj e => ?_)
      by_cases e1 : j = 3
      · rw [e1]; exact hi e
      · exact h j (by omega) e
  have b2 : ∀ σ', Fr [] lkT σ σ' → PosM σ' N t s g → (∀ j, j < 2 → ∀ e, ¬IsWd N t s g e (vw j)) → At (d + 2) 244 2 [some (.inr (.inr 146))] [] σ' K := by
    intro σ' f p h
    have hF' := hF.fr f rfl
    refine At.blk rfl rfl rfl fun sx => ?_
    simp (decide := true) only [RR, ms_app, toList_some, toList_none, if_true, if_false, true_and, and_true, cond_true, sm0, sm1, sm1l, sm2, lc_lt, lc_gt, lc_eq, Int.toNat_natCast, Int.reduceToNat, Nat.reduceAdd, Nat.reduceEqDiff, Int.reduceLT, Int.reduceEq, Int.reduceNeg, Int.reduceAdd, Int.reduceMul, Nat.reduceMul, ms_n, ms_i, ms_l, ms_p, PM, fxM hF']
    refine cal_of rfl (m_isHere (w := 11) (wr_ask (199, 11) (by decide)) hF' (hT.ms (f.mono rfl)) ((f 146 5 rfl).trans hb) p (fun σ1 e f1 p1 hi => ?_) (fun σ1 f1 p1 hi => ?_))
    · simp (decide := true) only [RR, ms_app, toList_some, toList_none, if_true, if_false, true_and, and_true, cond_true, sm0, sm1, sm1l, sm2, lc_lt, lc_gt, lc_eq, Int.toNat_natCast, Int.reduceToNat, Nat.reduceAdd, Nat.reduceEqDiff, Int.reduceLT, Int.reduceEq, Int.reduceNeg, Int.reduceAdd, Int.reduceMul, Nat.reduceMul, ms_n, ms_i, ms_l, ms_p, PM]
      exact hK σ1 _ (f.trans f1) p1 (Or.inr ⟨2, by decide, rfl, e, hi⟩)
    · simp (decide := true) only [RR, ms_app, toList_some, toList_none, if_true, if_false, true_and, and_true, cond_true, sm0, sm1, sm1l, sm2, lc_lt, lc_gt, lc_eq, Int.toNat_natCast, Int.reduceToNat, Nat.reduceAdd, Nat.reduceEqDiff, Int.reduceLT, Int.reduceEq, Int.reduceNeg, Int.reduceAdd, Int.reduceMul, Nat.reduceMul, ms_n, ms_i, ms_l, ms_p, PM]
      refine b3 σ1 (f.trans f1) (by first | exact p1 | exact p1.pos) (fun j hj e => ?_)
      by_cases e1 : j = 2
      · rw [e1]; exact hi e
      · exact h j (by omega) e
  have b1 : ∀ σ', Fr [] lkT σ σ' → PosM σ' N t s g → (∀ j, j < 1 → ∀ e, ¬IsWd N t s g e (vw j)) → At (d + 2) 244 1 [some (.inr (.inr 146))] [] σ' K := by
    intro σ' f p h
    have hF' := hF.fr f rfl
    refine At.blk rfl rfl rfl fun sx => ?_
    simp (decide := true) only [RR, ms_app, toList_some, toList_none, if_true, if_false, true_and, and_true, cond_true, sm0, sm1, sm1l, sm2, lc_lt, lc_gt, lc_eq, Int.toNat_natCast, Int.reduceToNat, Nat.reduceAdd, Nat.reduceEqDiff, Int.reduceLT, Int.reduceEq, Int.reduceNeg, Int.reduceAdd, Int.reduceMul, Nat.reduceMul, ms_n, ms_i, ms_l, ms_p, PM, fxM hF']
    refine cal_of rfl (m_isHere (w := 10) (wr_ask (198, 10) (by decide)) hF' (hT.ms (f.mono rfl)) ((f 146 5 rfl).trans hb) p (fun σ1 e f1 p1 hi => ?_) (fun σ1 f1 p1 hi => ?_))
    · simp (decide := true) only [RR, ms_app, toList_some, toList_none, if_true, if_false, true_and, and_true, cond_true, sm0, sm1, sm1l, sm2, lc_lt, lc_gt, lc_eq, Int.toNat_natCast, Int.reduceToNat, Nat.reduceAdd, Nat.reduceEqDiff, Int.reduceLT, Int.reduceEq, Int.reduceNeg, Int.reduceAdd, Int.reduceMul, Nat.reduceMul, ms_n, ms_i, ms_l, ms_p, PM]
      exact hK σ1 _ (f.trans f1) p1 (Or.inr ⟨1, by decide, rfl, e, hi⟩)
    · simp (decide := true) only [RR, ms_app, toList_some, toList_none, if_true, if_false, true_and, and_true, cond_true, sm0, sm1, sm1l, sm2, lc_lt, lc_gt, lc_eq, Int.toNat_natCast, Int.reduceToNat, Nat.reduceAdd, Nat.reduceEqDiff, Int.reduceLT, Int.reduceEq, Int.reduceNeg, Int.reduceAdd, Int.reduceMul, Nat.reduceMul, ms_n, ms_i, ms_l, ms_p, PM]
      refine b2 σ1 (f.trans f1) (by first | exact p1 | exact p1.pos) (fun j hj e => ?_)
      by_cases e1 : j = 1
      · rw [e1]; exact hi e
      · exact h j (by omega) e
  have b0 : ∀ σ', Fr [] lkT σ σ' → PosM σ' N t s g → (∀ j, j < 0 → ∀ e, ¬IsWd N t s g e (vw j)) → At (d + 2) 244 0 [some (.inr (.inr 146))] [] σ' K := by
    intro σ' f p h
    have hF' := hF.fr f rfl
    refine At.blk rfl rfl rfl fun sx => ?_
    simp (decide := true) only [RR, ms_app, toList_some, toList_none, if_true, if_false, true_and, and_true, cond_true, sm0, sm1, sm1l, sm2, lc_lt, lc_gt, lc_eq, Int.toNat_natCast, Int.reduceToNat, Nat.reduceAdd, Nat.reduceEqDiff, Int.reduceLT, Int.reduceEq, Int.reduceNeg, Int.reduceAdd, Int.reduceMul, Nat.reduceMul, ms_n, ms_i, ms_l, ms_p, PM, fxM hF']
    refine cal_of rfl (m_isHere (w := 1) (wr_ask (206, 1) (by decide)) hF' (hT.ms (f.mono rfl)) ((f 146 5 rfl).trans hb) p (fun σ1 e f1 p1 hi => ?_) (fun σ1 f1 p1 hi => ?_))
    · simp (decide := true) only [RR, ms_app, toList_some, toList_none, if_true, if_false, true_and, and_true, cond_true, sm0, sm1, sm1l, sm2, lc_lt, lc_gt, lc_eq, Int.toNat_natCast, Int.reduceToNat, Nat.reduceAdd, Nat.reduceEqDiff, Int.reduceLT, Int.reduceEq, Int.reduceNeg, Int.reduceAdd, Int.reduceMul, Nat.reduceMul, ms_n, ms_i, ms_l, ms_p, PM]
      exact hK σ1 _ (f.trans f1) p1 (Or.inr ⟨0, by decide, rfl, e, hi⟩)
    · simp (decide := true) only [RR, ms_app, toList_some, toList_none, if_true, if_false, true_and, and_true, cond_true, sm0, sm1, sm1l, sm2, lc_lt, lc_gt, lc_eq, Int.toNat_natCast, Int.reduceToNat, Nat.reduceAdd, Nat.reduceEqDiff, Int.reduceLT, Int.reduceEq, Int.reduceNeg, Int.reduceAdd, Int.reduceMul, Nat.reduceMul, ms_n, ms_i, ms_l, ms_p, PM]
      refine b1 σ1 (f.trans f1) (by first | exact p1 | exact p1.pos) (fun j hj e => ?_)
      by_cases e1 : j = 0
      · rw [e1]; exact hi e
      · exact h j (by omega) e
  exact b0 σ Fr.same hP (fun j hj => absurd hj (by omega))
def WO (N : Nat) (t : Nat → Int) (tk : Int) (s : Nat) (g : Bool) (lo hi : Nat) (k : Int) : Prop := (k = -1 ∧ ∀ j, lo ≤ j → j < hi → alw tk j → ∀ e, ¬IsWd N t s g e (vw j)) ∨ ∃ j : Nat, lo ≤ j ∧ j < hi ∧ alw tk j ∧ k = (j : Int) ∧ ∃ e, IsWd N t s g e (vw j)
theorem vw_inj : ∀ i : Nat, i < 10 → ∀ j : Nat, j < 10 → vw i = vw j → i = j := by decide
theorem vw_lt : ∀ j : Nat, j < 10 → vw j < 27 := by decide
theorem IsWd.uniq {e e' w w' : Nat} (h : IsWd N t s g e w) (h2 : IsWd N t s g e' w') (hw : w < 27) (hw' : w' < 27) : e = e' ∧ w = w' := by
  obtain rfl : e = e' := h.2.2.2.1.uniq h2.2.2.2.1
  exact ⟨rfl, h.2.2.2.2.uniq h2.2.2.2.2 hw hw'⟩
theorem m_isAllowed {j : Nat} (ht : σ 146 46 = tk) (h1 : alw tk j → K (some (.inl 1)) σ) (h0 : ¬alw tk j → K (some (.inl 0)) σ) : Mt (d + 1) 167 [.inr (.inr 146), .inl (j : Int)] σ K := by
  refine Mt.go (lv := [some (.inr (.inr 146)), some (.inl (j : Int))]) rfl rfl rfl ?_
  have yes : alw tk j → At d 167 3 [some (.inr (.inr 146)), some (.inl (j : Int))] [] σ K := by
    intro h
    refine At.blk rfl rfl rfl fun sx => ?_
    simp (decide := true) only [RR, ms_app, toList_some, toList_none, if_true, if_false, true_and, and_true, cond_true, sm0, sm1, sm1l, sm2, lc_lt, lc_gt, lc_eq, Int.toNat_natCast, Int.reduceToNat, Nat.reduceAdd, Nat.reduceEqDiff, Int.reduceLT, Int.reduceEq, Int.reduceNeg, Int.reduceAdd, Int.reduceMul, Nat.reduceMul, ms_n, ms_i, ms_l, ms_p, PM]
    refine At.blk rfl rfl rfl fun sx => ?_
    simp (decide := true) only [RR, ms_app, toList_some, toList_none, if_true, if_false, true_and, and_true, cond_true, sm0, sm1, sm1l, sm2, lc_lt, lc_gt, lc_eq, Int.toNat_natCast, Int.reduceToNat, Nat.reduceAdd, Nat.reduceEqDiff, Int.reduceLT, Int.reduceEq, Int.reduceNeg, Int.reduceAdd, Int.reduceMul, Nat.reduceMul, ms_n, ms_i, ms_l, ms_p, PM]
    exact h1 h
  have two : ∀ u : Int, tk ≠ 2 → u = (if tk = 0 then 5 else 6) → At d 167 2 [some (.inr (.inr 146)), some (.inl (j : Int))] [.inl u, .inl (j : Int)] σ K := by
    intro u h2 hu
    refine At.blk rfl rfl rfl fun sx => ?_
    simp (decide := true) only [RR, ms_app, toList_some, toList_none, if_true, if_false, true_and, and_true, cond_true, sm0, sm1, sm1l, sm2, lc_lt, lc_gt, lc_eq, Int.toNat_natCast, Int.reduceToNat, Nat.reduceAdd, Nat.reduceEqDiff, Int.reduceLT, Int.reduceEq, Int.reduceNeg, Int.reduceAdd, Int.reduceMul, Nat.reduceMul, ms_n, ms_i, ms_l, ms_p, PM]
    by_cases c : (j : Int) < u
    · rw [if_pos c]
      exact yes (Or.inr (by rw [← hu]; exact c))
    · rw [if_neg c]
      refine At.blk rfl rfl rfl fun sx => ?_
      simp (decide := true) only [RR, ms_app, toList_some, toList_none, if_true, if_false, true_and, and_true, cond_true, sm0, sm1, sm1l, sm2, lc_lt, lc_gt, lc_eq, Int.toNat_natCast, Int.reduceToNat, Nat.reduceAdd, Nat.reduceEqDiff, Int.reduceLT, Int.reduceEq, Int.reduceNeg, Int.reduceAdd, Int.reduceMul, Nat.reduceMul, ms_n, ms_i, ms_l, ms_p, PM]
      refine At.blk rfl rfl rfl fun sx => ?_
      simp (decide := true) only [RR, ms_app, toList_some, toList_none, if_true, if_false, true_and, and_true, cond_true, sm0, sm1, sm1l, sm2, lc_lt, lc_gt, lc_eq, Int.toNat_natCast, Int.reduceToNat, Nat.reduceAdd, Nat.reduceEqDiff, Int.reduceLT, Int.reduceEq, Int.reduceNeg, Int.reduceAdd, Int.reduceMul, Nat.reduceMul, ms_n, ms_i, ms_l, ms_p, PM]
      refine h0 (fun h => ?_)
      rcases h with h | h
      · exact h2 h
      · rw [← hu] at h; exact c h
  refine At.blk rfl rfl rfl fun sx => ?_
  simp (decide := true) only [RR, ms_app, toList_some, toList_none, if_true, if_false, true_and, and_true, cond_true, sm0, sm1, sm1l, sm2, lc_lt, lc_gt, lc_eq, Int.toNat_natCast, Int.reduceToNat, Nat.reduceAdd, Nat.reduceEqDiff, Int.reduceLT, Int.reduceEq, Int.reduceNeg, Int.reduceAdd, Int.reduceMul, Nat.reduceMul, ms_n, ms_i, ms_l, ms_p, PM, ht]
  by_cases c : tk = 2
  · rw [if_pos c]; exact yes (Or.inl c)
  · rw [if_neg c]
    by_cases c2 : tk = 0
    · rw [if_pos c2]
      exact two 5 c (by rw [if_pos c2])
    · rw [if_neg c2]
      refine At.blk rfl rfl rfl fun sx => ?_
      simp (decide := true) only [RR, ms_app, toList_some, toList_none, if_true, if_false, true_and, and_true, cond_true, sm0, sm1, sm1l, sm2, lc_lt, lc_gt, lc_eq, Int.toNat_natCast, Int.reduceToNat, Nat.reduceAdd, Nat.reduceEqDiff, Int.reduceLT, Int.reduceEq, Int.reduceNeg, Int.reduceAdd, Int.reduceMul, Nat.reduceMul, ms_n, ms_i, ms_l, ms_p, PM]
      exact two 6 c (by rw [if_neg c2])
theorem m_qWordOf {lo hi : Nat} (hF : Fix σ) (hT : TxM σ N t) (hb : σ 146 5 = 0) (hP : PosM σ N t s g) (ht : σ 146 46 = tk) (hhi : hi ≤ 10) (hK : ∀ σ' k, Fr [] lkT σ σ' → PosA σ' N t s g → WO N t tk s g lo hi k → K (some (.inl k)) σ') : Mt (d + 4) 245 [.inr (.inr 146), .inl (lo : Int), .inl (hi : Int)] σ K := by
  refine Mt.go (lv := [some (.inr (.inr 146)), some (.inl (lo : Int)), some (.inl (hi : Int)), none]) rfl rfl rfl ?_
  refine At.blk rfl rfl rfl fun sx => ?_
  simp (decide := true) only [RR, ms_app, toList_some, toList_none, if_true, if_false, true_and, and_true, cond_true, sm0, sm1, sm1l, sm2, lc_lt, lc_gt, lc_eq, Int.toNat_natCast, Int.reduceToNat, Nat.reduceAdd, Nat.reduceEqDiff, Int.reduceLT, Int.reduceEq, Int.reduceNeg, Int.reduceAdd, Int.reduceMul, Nat.reduceMul, ms_n, ms_i, ms_l, ms_p, PM]
  refine cal_of rfl (m_qWordHere hF hT hb hP (fun σ1 k f1 p1 hk => ?_))
  have no : WO N t tk s g lo hi (-1) → At (d + 3) 245 1 [some (.inr (.inr 146)), some (.inl (lo : Int)), some (.inl (hi : Int)), some (.inl k)] [] σ1 K := by
    intro h
    refine At.blk rfl rfl rfl fun sx => ?_
    simp (decide := true) only [RR, ms_app, toList_some, toList_none, if_true, if_false, true_and, and_true, cond_true, sm0, sm1, sm1l, sm2, lc_lt, lc_gt, lc_eq, Int.toNat_natCast, Int.reduceToNat, Nat.reduceAdd, Nat.reduceEqDiff, Int.reduceLT, Int.reduceEq, Int.reduceNeg, Int.reduceAdd, Int.reduceMul, Nat.reduceMul, ms_n, ms_i, ms_l, ms_p, PM]
    refine At.blk rfl rfl rfl fun sx => ?_
    simp (decide := true) only [RR, ms_app, toList_some, toList_none, if_true, if_false, true_and, and_true, cond_true, sm0, sm1, sm1l, sm2, lc_lt, lc_gt, lc_eq, Int.toNat_natCast, Int.reduceToNat, Nat.reduceAdd, Nat.reduceEqDiff, Int.reduceLT, Int.reduceEq, Int.reduceNeg, Int.reduceAdd, Int.reduceMul, Nat.reduceMul, ms_n, ms_i, ms_l, ms_p, PM]
    exact hK σ1 _ f1 p1 h
  simp (decide := true) only [RR, ms_app, toList_some, toList_none, if_true, if_false, true_and, and_true, cond_true, sm0, sm1, sm1l, sm2, lc_lt, lc_gt, lc_eq, Int.toNat_natCast, Int.reduceToNat, Nat.reduceAdd, Nat.reduceEqDiff, Int.reduceLT, Int.reduceEq, Int.reduceNeg, Int.reduceAdd, Int.reduceMul, Nat.reduceMul, ms_n, ms_i, ms_l, ms_p, PM]
  rcases hk with ⟨rfl, hk⟩ | ⟨j, j1, rfl, e, je⟩
  · rw [if_pos (by omega)]
    exact no (Or.inl ⟨rfl, fun j a b _ => hk j (by omega)⟩)
  · have none : ¬(lo ≤ j ∧ j < hi ∧ alw tk j) → WO N t tk s g lo hi (-1) := fun h => Or.inl ⟨rfl, fun i a b c e2 h2 => h (by
      have := (je.uniq h2 (vw_lt j j1) (vw_lt i (by omega))).2
      rw [vw_inj j j1 i (by omega) this]
      exact ⟨a, b, c⟩)⟩
    by_cases c1 : (j : Int) < (lo : Int)
    · rw [if_pos c1]
      exact no (none (by omega))
    · rw [if_neg c1]
      by_cases c2 : (j : Int) < (hi : Int)
      · rw [if_pos c2]
        refine cal_of rfl (m_isAllowed ((f1 146 46 rfl).trans ht) (fun ha => ?_) (fun ha => ?_))
        · simp (decide := true) only [RR, ms_app, toList_some, toList_none, if_true, if_false, true_and, and_true, cond_true, sm0, sm1, sm1l, sm2, lc_lt, lc_gt, lc_eq, Int.toNat_natCast, Int.reduceToNat, Nat.reduceAdd, Nat.reduceEqDiff, Int.reduceLT, Int.reduceEq, Int.reduceNeg, Int.reduceAdd, Int.reduceMul, Nat.reduceMul, ms_n, ms_i, ms_l, ms_p, PM]
          refine At.blk rfl rfl rfl fun sx => ?_
          simp (decide := true) only [RR, ms_app, toList_some, toList_none, if_true, if_false, true_and, and_true, cond_true, sm0, sm1, sm1l, sm2, lc_lt, lc_gt, lc_eq, Int.toNat_natCast, Int.reduceToNat, Nat.reduceAdd, Nat.reduceEqDiff, Int.reduceLT, Int.reduceEq, Int.reduceNeg, Int.reduceAdd, Int.reduceMul, Nat.reduceMul, ms_n, ms_i, ms_l, ms_p, PM]
          exact hK σ1 _ f1 p1 (Or.inr ⟨j, by omega, by omega, ha, rfl, e, je⟩)
        · simp (decide := true) only [RR, ms_app, toList_some, toList_none, if_true, if_false, true_and, and_true, cond_true, sm0, sm1, sm1l, sm2, lc_lt, lc_gt, lc_eq, Int.toNat_natCast, Int.reduceToNat, Nat.reduceAdd, Nat.reduceEqDiff, Int.reduceLT, Int.reduceEq, Int.reduceNeg, Int.reduceAdd, Int.reduceMul, Nat.reduceMul, ms_n, ms_i, ms_l, ms_p, PM]
          exact no (none (fun h => ha h.2.2))
      · rw [if_neg c2]
        exact no (none (by omega))
theorem m_qAsksWord {j : Nat} (hj : j < 10) (hF : Fix σ) (hT : TxM σ N t) (hb : σ 146 5 = 0) (hP : PosM σ N t s g) {e : Nat} (hi : IsWd N t s g e (vw j)) (hK : ∀ σ' s', Fr [] tmT σ σ' → Skp N t e s' → PosM σ' N t s' (decide (s' = e)) → K none σ') : Mt (d + 5) 246 [.inr (.inr 146), .inl (j : Int)] σ K := by
  refine Mt.go (lv := [some (.inr (.inr 146)), some (.inl (j : Int))]) rfl rfl rfl ?_
  have go : ∀ (w : Nat), w = vw j → w < 27 → ∀ (σ' : mM) (e2 s' : Nat), Fr [] tmT σ σ' → IsWd N t s g e2 w → Skp N t e2 s' → PosM σ' N t s' (decide (s' = e2)) → K none σ' := by
    intro w hw w27 σ' e2 s' f hi2 hs hp
    obtain ⟨rfl, -⟩ := hi.uniq hi2 (vw_lt j hj) w27
    exact hK σ' s' f hs hp
  rcases (show j = 0 ∨ j = 1 ∨ j = 2 ∨ j = 3 ∨ j = 4 ∨ j = 5 ∨ j = 6 ∨ j = 7 ∨ j = 8 ∨ j = 9 by omega) with rfl | rfl | rfl | rfl | rfl | rfl | rfl | rfl | rfl | rfl
  · refine At.blk rfl rfl rfl fun sx => ?_
    simp (decide := true) only [RR, ms_app, toList_some, toList_none, if_true, if_false, true_and, and_true, cond_true, sm0, sm1, sm1l, sm2, lc_lt, lc_gt, lc_eq, Int.toNat_natCast, Int.reduceToNat, Nat.reduceAdd, Nat.reduceEqDiff, Int.reduceLT, Int.reduceEq, Int.reduceNeg, Int.reduceAdd, Int.reduceMul, Nat.reduceMul, ms_n, ms_i, ms_l, ms_p, PM]
    refine At.blk rfl rfl rfl fun sx => ?_
    simp (decide := true) only [RR, ms_app, toList_some, toList_none, if_true, if_false, true_and, and_true, cond_true, sm0, sm1, sm1l, sm2, lc_lt, lc_gt, lc_eq, Int.toNat_natCast, Int.reduceToNat, Nat.reduceAdd, Nat.reduceEqDiff, Int.reduceLT, Int.reduceEq, Int.reduceNeg, Int.reduceAdd, Int.reduceMul, Nat.reduceMul, ms_n, ms_i, ms_l, ms_p, PM, fxM hF]
    refine cal_of rfl (m_asks (w := 1) (by decide) (wr_ask (206, 1) (by decide)) hF hT hb hP (fun σ1 e1 s1 f1 h1 k1 p1 => ?_) (fun σ1 f1 h1 _ _ => absurd hi (h1 e)))
    simp (decide := true) only [RR, ms_app, toList_some, toList_none, if_true, if_false, true_and, and_true, cond_true, sm0, sm1, sm1l, sm2, lc_lt, lc_gt, lc_eq, Int.toNat_natCast, Int.reduceToNat, Nat.reduceAdd, Nat.reduceEqDiff, Int.reduceLT, Int.reduceEq, Int.reduceNeg, Int.reduceAdd, Int.reduceMul, Nat.reduceMul, ms_n, ms_i, ms_l, ms_p, PM]
    refine At.blk rfl rfl rfl fun sx => ?_
    simp (decide := true) only [RR, ms_app, toList_some, toList_none, if_true, if_false, true_and, and_true, cond_true, sm0, sm1, sm1l, sm2, lc_lt, lc_gt, lc_eq, Int.toNat_natCast, Int.reduceToNat, Nat.reduceAdd, Nat.reduceEqDiff, Int.reduceLT, Int.reduceEq, Int.reduceNeg, Int.reduceAdd, Int.reduceMul, Nat.reduceMul, ms_n, ms_i, ms_l, ms_p, PM]
    exact go 1 rfl (by decide) σ1 e1 s1 f1 h1 k1 p1
  · refine At.blk rfl rfl rfl fun sx => ?_
    simp (decide := true) only [RR, ms_app, toList_some, toList_none, if_true, if_false, true_and, and_true, cond_true, sm0, sm1, sm1l, sm2, lc_lt, lc_gt, lc_eq, Int.toNat_natCast, Int.reduceToNat, Nat.reduceAdd, Nat.reduceEqDiff, Int.reduceLT, Int.reduceEq, Int.reduceNeg, Int.reduceAdd, Int.reduceMul, Nat.reduceMul, ms_n, ms_i, ms_l, ms_p, PM]
    refine At.blk rfl rfl rfl fun sx => ?_
    simp (decide := true) only [RR, ms_app, toList_some, toList_none, if_true, if_false, true_and, and_true, cond_true, sm0, sm1, sm1l, sm2, lc_lt, lc_gt, lc_eq, Int.toNat_natCast, Int.reduceToNat, Nat.reduceAdd, Nat.reduceEqDiff, Int.reduceLT, Int.reduceEq, Int.reduceNeg, Int.reduceAdd, Int.reduceMul, Nat.reduceMul, ms_n, ms_i, ms_l, ms_p, PM, fxM hF]
    refine cal_of rfl (m_asks (w := 10) (by decide) (wr_ask (198, 10) (by decide)) hF hT hb hP (fun σ1 e1 s1 f1 h1 k1 p1 => ?_) (fun σ1 f1 h1 _ _ => absurd hi (h1 e)))
    simp (decide := true) only [RR, ms_app, toList_some, toList_none, if_true, if_false, true_and, and_true, cond_true, sm0, sm1, sm1l, sm2, lc_lt, lc_gt, lc_eq, Int.toNat_natCast, Int.reduceToNat, Nat.reduceAdd, Nat.reduceEqDiff, Int.reduceLT, Int.reduceEq, Int.reduceNeg, Int.reduceAdd, Int.reduceMul, Nat.reduceMul, ms_n, ms_i, ms_l, ms_p, PM]
    refine At.blk rfl rfl rfl fun sx => ?_
    simp (decide := true) only [RR, ms_app, toList_some, toList_none, if_true, if_false, true_and, and_true, cond_true, sm0, sm1, sm1l, sm2, lc_lt, lc_gt, lc_eq, Int.toNat_natCast, Int.reduceToNat, Nat.reduceAdd, Nat.reduceEqDiff, Int.reduceLT, Int.reduceEq, Int.reduceNeg, Int.reduceAdd, Int.reduceMul, Nat.reduceMul, ms_n, ms_i, ms_l, ms_p, PM]
    exact go 10 rfl (by decide) σ1 e1 s1 f1 h1 k1 p1
  · refine At.blk rfl rfl rfl fun sx => ?_
    simp (decide := true) only [RR, ms_app, toList_some, toList_none, if_true, if_false, true_and, and_true, cond_true, sm0, sm1, sm1l, sm2, lc_lt, lc_gt, lc_eq, Int.toNat_natCast, Int.reduceToNat, Nat.reduceAdd, Nat.reduceEqDiff, Int.reduceLT, Int.reduceEq, Int.reduceNeg, Int.reduceAdd, Int.reduceMul, Nat.reduceMul, ms_n, ms_i, ms_l, ms_p, PM]
    refine At.blk rfl rfl rfl fun sx => ?_
    simp (decide := true) only [RR, ms_app, toList_some, toList_none, if_true, if_false, true_and, and_true, cond_true, sm0, sm1, sm1l, sm2, lc_lt, lc_gt, lc_eq, Int.toNat_natCast, Int.reduceToNat, Nat.reduceAdd, Nat.reduceEqDiff, Int.reduceLT, Int.reduceEq, Int.reduceNeg, Int.reduceAdd, Int.reduceMul, Nat.reduceMul, ms_n, ms_i, ms_l, ms_p, PM, fxM hF]
    refine cal_of rfl (m_asks (w := 11) (by decide) (wr_ask (199, 11) (by decide)) hF hT hb hP (fun σ1 e1 s1 f1 h1 k1 p1 => ?_) (fun σ1 f1 h1 _ _ => absurd hi (h1 e)))
    simp (decide := true) only [RR, ms_app, toList_some, toList_none, if_true, if_false, true_and, and_true, cond_true, sm0, sm1, sm1l, sm2, lc_lt, lc_gt, lc_eq, Int.toNat_natCast, Int.reduceToNat, Nat.reduceAdd, Nat.reduceEqDiff, Int.reduceLT, Int.reduceEq, Int.reduceNeg, Int.reduceAdd, Int.reduceMul, Nat.reduceMul, ms_n, ms_i, ms_l, ms_p, PM]
    refine At.blk rfl rfl rfl fun sx => ?_
    simp (decide := true) only [RR, ms_app, toList_some, toList_none, if_true, if_false, true_and, and_true, cond_true, sm0, sm1, sm1l, sm2, lc_lt, lc_gt, lc_eq, Int.toNat_natCast, Int.reduceToNat, Nat.reduceAdd, Nat.reduceEqDiff, Int.reduceLT, Int.reduceEq, Int.reduceNeg, Int.reduceAdd, Int.reduceMul, Nat.reduceMul, ms_n, ms_i, ms_l, ms_p, PM]
    exact go 11 rfl (by decide) σ1 e1 s1 f1 h1 k1 p1
  · refine At.blk rfl rfl rfl fun sx => ?_
    simp (decide := true) only [RR, ms_app, toList_some, toList_none, if_true, if_false, true_and, and_true, cond_true, sm0, sm1, sm1l, sm2, lc_lt, lc_gt, lc_eq, Int.toNat_natCast, Int.reduceToNat, Nat.reduceAdd, Nat.reduceEqDiff, Int.reduceLT, Int.reduceEq, Int.reduceNeg, Int.reduceAdd, Int.reduceMul, Nat.reduceMul, ms_n, ms_i, ms_l, ms_p, PM]
    refine At.blk rfl rfl rfl fun sx => ?_
    simp (decide := true) only [RR, ms_app, toList_some, toList_none, if_true, if_false, true_and, and_true, cond_true, sm0, sm1, sm1l, sm2, lc_lt, lc_gt, lc_eq, Int.toNat_natCast, Int.reduceToNat, Nat.reduceAdd, Nat.reduceEqDiff, Int.reduceLT, Int.reduceEq, Int.reduceNeg, Int.reduceAdd, Int.reduceMul, Nat.reduceMul, ms_n, ms_i, ms_l, ms_p, PM, fxM hF]
    refine cal_of rfl (m_asks (w := 12) (by decide) (wr_ask (207, 12) (by decide)) hF hT hb hP (fun σ1 e1 s1 f1 h1 k1 p1 => ?_) (fun σ1 f1 h1 _ _ => absurd hi (h1 e)))
    simp (decide := true) only [RR, ms_app, toList_some, toList_none, if_true, if_false, true_and, and_true, cond_true, sm0, sm1, sm1l, sm2, lc_lt, lc_gt, lc_eq, Int.toNat_natCast, Int.reduceToNat, Nat.reduceAdd, Nat.reduceEqDiff, Int.reduceLT, Int.reduceEq, Int.reduceNeg, Int.reduceAdd, Int.reduceMul, Nat.reduceMul, ms_n, ms_i, ms_l, ms_p, PM]
    refine At.blk rfl rfl rfl fun sx => ?_
    simp (decide := true) only [RR, ms_app, toList_some, toList_none, if_true, if_false, true_and, and_true, cond_true, sm0, sm1, sm1l, sm2, lc_lt, lc_gt, lc_eq, Int.toNat_natCast, Int.reduceToNat, Nat.reduceAdd, Nat.reduceEqDiff, Int.reduceLT, Int.reduceEq, Int.reduceNeg, Int.reduceAdd, Int.reduceMul, Nat.reduceMul, ms_n, ms_i, ms_l, ms_p, PM]
    exact go 12 rfl (by decide) σ1 e1 s1 f1 h1 k1 p1
  · refine At.blk rfl rfl rfl fun sx => ?_
    simp (decide := true) only [RR, ms_app, toList_some, toList_none, if_true, if_false, true_and, and_true, cond_true, sm0, sm1, sm1l, sm2, lc_lt, lc_gt, lc_eq, Int.toNat_natCast, Int.reduceToNat, Nat.reduceAdd, Nat.reduceEqDiff, Int.reduceLT, Int.reduceEq, Int.reduceNeg, Int.reduceAdd, Int.reduceMul, Nat.reduceMul, ms_n, ms_i, ms_l, ms_p, PM]
    refine At.blk rfl rfl rfl fun sx => ?_
    simp (decide := true) only [RR, ms_app, toList_some, toList_none, if_true, if_false, true_and, and_true, cond_true, sm0, sm1, sm1l, sm2, lc_lt, lc_gt, lc_eq, Int.toNat_natCast, Int.reduceToNat, Nat.reduceAdd, Nat.reduceEqDiff, Int.reduceLT, Int.reduceEq, Int.reduceNeg, Int.reduceAdd, Int.reduceMul, Nat.reduceMul, ms_n, ms_i, ms_l, ms_p, PM, fxM hF]
    refine cal_of rfl (m_asks (w := 13) (by decide) (wr_ask (208, 13) (by decide)) hF hT hb hP (fun σ1 e1 s1 f1 h1 k1 p1 => ?_) (fun σ1 f1 h1 _ _ => absurd hi (h1 e)))
    simp (decide := true) only [RR, ms_app, toList_some, toList_none, if_true, if_false, true_and, and_true, cond_true, sm0, sm1, sm1l, sm2, lc_lt, lc_gt, lc_eq, Int.toNat_natCast, Int.reduceToNat, Nat.reduceAdd, Nat.reduceEqDiff, Int.reduceLT, Int.reduceEq, Int.reduceNeg, Int.reduceAdd, Int.reduceMul, Nat.reduceMul, ms_n, ms_i, ms_l, ms_p, PM]
    refine At.blk rfl rfl rfl fun sx => ?_
    simp (decide := true) only [RR, ms_app, toList_some, toList_none, if_true, if_false, true_and, and_true, cond_true, sm0, sm1, sm1l, sm2, lc_lt, lc_gt, lc_eq, Int.toNat_natCast, Int.reduceToNat, Nat.reduceAdd, Nat.reduceEqDiff, Int.reduceLT, Int.reduceEq, Int.reduceNeg, Int.reduceAdd, Int.reduceMul, Nat.reduceMul, ms_n, ms_i, ms_l, ms_p, PM]
    exact go 13 rfl (by decide) σ1 e1 s1 f1 h1 k1 p1
  · refine At.blk rfl rfl rfl fun sx => ?_
    simp (decide := true) only [RR, ms_app, toList_some, toList_none, if_true, if_false, true_and, and_true, cond_true, sm0, sm1, sm1l, sm2, lc_lt, lc_gt, lc_eq, Int.toNat_natCast, Int.reduceToNat, Nat.reduceAdd, Nat.reduceEqDiff, Int.reduceLT, Int.reduceEq, Int.reduceNeg, Int.reduceAdd, Int.reduceMul, Nat.reduceMul, ms_n, ms_i, ms_l, ms_p, PM]
    refine At.blk rfl rfl rfl fun sx => ?_
    simp (decide := true) only [RR, ms_app, toList_some, toList_none, if_true, if_false, true_and, and_true, cond_true, sm0, sm1, sm1l, sm2, lc_lt, lc_gt, lc_eq, Int.toNat_natCast, Int.reduceToNat, Nat.reduceAdd, Nat.reduceEqDiff, Int.reduceLT, Int.reduceEq, Int.reduceNeg, Int.reduceAdd, Int.reduceMul, Nat.reduceMul, ms_n, ms_i, ms_l, ms_p, PM, fxM hF]
    refine cal_of rfl (m_asks (w := 14) (by decide) (wr_ask (209, 14) (by decide)) hF hT hb hP (fun σ1 e1 s1 f1 h1 k1 p1 => ?_) (fun σ1 f1 h1 _ _ => absurd hi (h1 e)))
    simp (decide := true) only [RR, ms_app, toList_some, toList_none, if_true, if_false, true_and, and_true, cond_true, sm0, sm1, sm1l, sm2, lc_lt, lc_gt, lc_eq, Int.toNat_natCast, Int.reduceToNat, Nat.reduceAdd, Nat.reduceEqDiff, Int.reduceLT, Int.reduceEq, Int.reduceNeg, Int.reduceAdd, Int.reduceMul, Nat.reduceMul, ms_n, ms_i, ms_l, ms_p, PM]
    refine At.blk rfl rfl rfl fun sx => ?_
    simp (decide := true) only [RR, ms_app, toList_some, toList_none, if_true, if_false, true_and, and_true, cond_true, sm0, sm1, sm1l, sm2, lc_lt, lc_gt, lc_eq, Int.toNat_natCast, Int.reduceToNat, Nat.reduceAdd, Nat.reduceEqDiff, Int.reduceLT, Int.reduceEq, Int.reduceNeg, Int.reduceAdd, Int.reduceMul, Nat.reduceMul, ms_n, ms_i, ms_l, ms_p, PM]
    exact go 14 rfl (by decide) σ1 e1 s1 f1 h1 k1 p1
  · refine At.blk rfl rfl rfl fun sx => ?_
    simp (decide := true) only [RR, ms_app, toList_some, toList_none, if_true, if_false, true_and, and_true, cond_true, sm0, sm1, sm1l, sm2, lc_lt, lc_gt, lc_eq, Int.toNat_natCast, Int.reduceToNat, Nat.reduceAdd, Nat.reduceEqDiff, Int.reduceLT, Int.reduceEq, Int.reduceNeg, Int.reduceAdd, Int.reduceMul, Nat.reduceMul, ms_n, ms_i, ms_l, ms_p, PM]
    refine At.blk rfl rfl rfl fun sx => ?_
    simp (decide := true) only [RR, ms_app, toList_some, toList_none, if_true, if_false, true_and, and_true, cond_true, sm0, sm1, sm1l, sm2, lc_lt, lc_gt, lc_eq, Int.toNat_natCast, Int.reduceToNat, Nat.reduceAdd, Nat.reduceEqDiff, Int.reduceLT, Int.reduceEq, Int.reduceNeg, Int.reduceAdd, Int.reduceMul, Nat.reduceMul, ms_n, ms_i, ms_l, ms_p, PM, fxM hF]
    refine cal_of rfl (m_asks (w := 15) (by decide) (wr_ask (210, 15) (by decide)) hF hT hb hP (fun σ1 e1 s1 f1 h1 k1 p1 => ?_) (fun σ1 f1 h1 _ _ => absurd hi (h1 e)))
    simp (decide := true) only [RR, ms_app, toList_some, toList_none, if_true, if_false, true_and, and_true, cond_true, sm0, sm1, sm1l, sm2, lc_lt, lc_gt, lc_eq, Int.toNat_natCast, Int.reduceToNat, Nat.reduceAdd, Nat.reduceEqDiff, Int.reduceLT, Int.reduceEq, Int.reduceNeg, Int.reduceAdd, Int.reduceMul, Nat.reduceMul, ms_n, ms_i, ms_l, ms_p, PM]
    refine At.blk rfl rfl rfl fun sx => ?_
    simp (decide := true) only [RR, ms_app, toList_some, toList_none, if_true, if_false, true_and, and_true, cond_true, sm0, sm1, sm1l, sm2, lc_lt, lc_gt, lc_eq, Int.toNat_natCast, Int.reduceToNat, Nat.reduceAdd, Nat.reduceEqDiff, Int.reduceLT, Int.reduceEq, Int.reduceNeg, Int.reduceAdd, Int.reduceMul, Nat.reduceMul, ms_n, ms_i, ms_l, ms_p, PM]
    exact go 15 rfl (by decide) σ1 e1 s1 f1 h1 k1 p1
  · refine At.blk rfl rfl rfl fun sx => ?_
    simp (decide := true) only [RR, ms_app, toList_some, toList_none, if_true, if_false, true_and, and_true, cond_true, sm0, sm1, sm1l, sm2, lc_lt, lc_gt, lc_eq, Int.toNat_natCast, Int.reduceToNat, Nat.reduceAdd, Nat.reduceEqDiff, Int.reduceLT, Int.reduceEq, Int.reduceNeg, Int.reduceAdd, Int.reduceMul, Nat.reduceMul, ms_n, ms_i, ms_l, ms_p, PM]
    refine At.blk rfl rfl rfl fun sx => ?_
    simp (decide := true) only [RR, ms_app, toList_some, toList_none, if_true, if_false, true_and, and_true, cond_true, sm0, sm1, sm1l, sm2, lc_lt, lc_gt, lc_eq, Int.toNat_natCast, Int.reduceToNat, Nat.reduceAdd, Nat.reduceEqDiff, Int.reduceLT, Int.reduceEq, Int.reduceNeg, Int.reduceAdd, Int.reduceMul, Nat.reduceMul, ms_n, ms_i, ms_l, ms_p, PM, fxM hF]
    refine cal_of rfl (m_asks (w := 3) (by decide) (wr_ask (211, 3) (by decide)) hF hT hb hP (fun σ1 e1 s1 f1 h1 k1 p1 => ?_) (fun σ1 f1 h1 _ _ => absurd hi (h1 e)))
    simp (decide := true) only [RR, ms_app, toList_some, toList_none, if_true, if_false, true_and, and_true, cond_true, sm0, sm1, sm1l, sm2, lc_lt, lc_gt, lc_eq, Int.toNat_natCast, Int.reduceToNat, Nat.reduceAdd, Nat.reduceEqDiff, Int.reduceLT, Int.reduceEq, Int.reduceNeg, Int.reduceAdd, Int.reduceMul, Nat.reduceMul, ms_n, ms_i, ms_l, ms_p, PM]
    refine At.blk rfl rfl rfl fun sx => ?_
    simp (decide := true) only [RR, ms_app, toList_some, toList_none, if_true, if_false, true_and, and_true, cond_true, sm0, sm1, sm1l, sm2, lc_lt, lc_gt, lc_eq, Int.toNat_natCast, Int.reduceToNat, Nat.reduceAdd, Nat.reduceEqDiff, Int.reduceLT, Int.reduceEq, Int.reduceNeg, Int.reduceAdd, Int.reduceMul, Nat.reduceMul, ms_n, ms_i, ms_l, ms_p, PM]
    exact go 3 rfl (by decide) σ1 e1 s1 f1 h1 k1 p1
  · refine At.blk rfl rfl rfl fun sx => ?_
    simp (decide := true) only [RR, ms_app, toList_some, toList_none, if_true, if_false, true_and, and_true, cond_true, sm0, sm1, sm1l, sm2, lc_lt, lc_gt, lc_eq, Int.toNat_natCast, Int.reduceToNat, Nat.reduceAdd, Nat.reduceEqDiff, Int.reduceLT, Int.reduceEq, Int.reduceNeg, Int.reduceAdd, Int.reduceMul, Nat.reduceMul, ms_n, ms_i, ms_l, ms_p, PM]
    refine At.blk rfl rfl rfl fun sx => ?_
    simp (decide := true) only [RR, ms_app, toList_some, toList_none, if_true, if_false, true_and, and_true, cond_true, sm0, sm1, sm1l, sm2, lc_lt, lc_gt, lc_eq, Int.toNat_natCast, Int.reduceToNat, Nat.reduceAdd, Nat.reduceEqDiff, Int.reduceLT, Int.reduceEq, Int.reduceNeg, Int.reduceAdd, Int.reduceMul, Nat.reduceMul, ms_n, ms_i, ms_l, ms_p, PM, fxM hF]
    refine cal_of rfl (m_asks (w := 4) (by decide) (wr_ask (212, 4) (by decide)) hF hT hb hP (fun σ1 e1 s1 f1 h1 k1 p1 => ?_) (fun σ1 f1 h1 _ _ => absurd hi (h1 e)))
    simp (decide := true) only [RR, ms_app, toList_some, toList_none, if_true, if_false, true_and, and_true, cond_true, sm0, sm1, sm1l, sm2, lc_lt, lc_gt, lc_eq, Int.toNat_natCast, Int.reduceToNat, Nat.reduceAdd, Nat.reduceEqDiff, Int.reduceLT, Int.reduceEq, Int.reduceNeg, Int.reduceAdd, Int.reduceMul, Nat.reduceMul, ms_n, ms_i, ms_l, ms_p, PM]
    refine At.blk rfl rfl rfl fun sx => ?_
    simp (decide := true) only [RR, ms_app, toList_some, toList_none, if_true, if_false, true_and, and_true, cond_true, sm0, sm1, sm1l, sm2, lc_lt, lc_gt, lc_eq, Int.toNat_natCast, Int.reduceToNat, Nat.reduceAdd, Nat.reduceEqDiff, Int.reduceLT, Int.reduceEq, Int.reduceNeg, Int.reduceAdd, Int.reduceMul, Nat.reduceMul, ms_n, ms_i, ms_l, ms_p, PM]
    exact go 4 rfl (by decide) σ1 e1 s1 f1 h1 k1 p1
  · refine At.blk rfl rfl rfl fun sx => ?_
    simp (decide := true) only [RR, ms_app, toList_some, toList_none, if_true, if_false, true_and, and_true, cond_true, sm0, sm1, sm1l, sm2, lc_lt, lc_gt, lc_eq, Int.toNat_natCast, Int.reduceToNat, Nat.reduceAdd, Nat.reduceEqDiff, Int.reduceLT, Int.reduceEq, Int.reduceNeg, Int.reduceAdd, Int.reduceMul, Nat.reduceMul, ms_n, ms_i, ms_l, ms_p, PM]
    refine At.blk rfl rfl rfl fun sx => ?_
    simp (decide := true) only [RR, ms_app, toList_some, toList_none, if_true, if_false, true_and, and_true, cond_true, sm0, sm1, sm1l, sm2, lc_lt, lc_gt, lc_eq, Int.toNat_natCast, Int.reduceToNat, Nat.reduceAdd, Nat.reduceEqDiff, Int.reduceLT, Int.reduceEq, Int.reduceNeg, Int.reduceAdd, Int.reduceMul, Nat.reduceMul, ms_n, ms_i, ms_l, ms_p, PM, fxM hF]
    refine cal_of rfl (m_asks (w := 2) (by decide) (wr_ask (213, 2) (by decide)) hF hT hb hP (fun σ1 e1 s1 f1 h1 k1 p1 => ?_) (fun σ1 f1 h1 _ _ => absurd hi (h1 e)))
    simp (decide := true) only [RR, ms_app, toList_some, toList_none, if_true, if_false, true_and, and_true, cond_true, sm0, sm1, sm1l, sm2, lc_lt, lc_gt, lc_eq, Int.toNat_natCast, Int.reduceToNat, Nat.reduceAdd, Nat.reduceEqDiff, Int.reduceLT, Int.reduceEq, Int.reduceNeg, Int.reduceAdd, Int.reduceMul, Nat.reduceMul, ms_n, ms_i, ms_l, ms_p, PM]
    refine At.blk rfl rfl rfl fun sx => ?_
    simp (decide := true) only [RR, ms_app, toList_some, toList_none, if_true, if_false, true_and, and_true, cond_true, sm0, sm1, sm1l, sm2, lc_lt, lc_gt, lc_eq, Int.toNat_natCast, Int.reduceToNat, Nat.reduceAdd, Nat.reduceEqDiff, Int.reduceLT, Int.reduceEq, Int.reduceNeg, Int.reduceAdd, Int.reduceMul, Nat.reduceMul, ms_n, ms_i, ms_l, ms_p, PM]
    exact go 2 rfl (by decide) σ1 e1 s1 f1 h1 k1 p1
end
