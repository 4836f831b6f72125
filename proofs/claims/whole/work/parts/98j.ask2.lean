section
variable {d : Nat} {σ : mM} {K : Option mV → mM → Prop} {N : Nat} {t : Nat → Int} {s : Nat} {g : Bool} {rc ws : List Int} {o : Nat}
theorem TX.wd (hX : TX σ N t s g) : (∃ e : Nat, σ 20 1 = 1 ∧ σ 20 3 = (e : Int) ∧ (∀ w : Nat, w < 27 → σ 20 4 = (w : Int) → IsWd N t s g e w) ∧ ∀ w : Nat, w < 27 → ∀ e2, IsWd N t s g e2 w → σ 20 4 = (w : Int)) ∨ (σ 20 1 ≠ 1 ∧ ∀ (w e : Nat), ¬IsWd N t s g e w) := by
  rcases hX.view with ⟨a, q⟩ | ⟨e, a, b, c, r, q, q3, qw⟩ | ⟨e, a, b, c, r, q, q3, qn⟩ | ⟨a, b, c, c2, q, q3⟩ | ⟨a, b, c, q⟩
  · exact Or.inr ⟨by omega, fun w e h => by have := h.2.1; omega⟩
  · exact Or.inl ⟨e, q, q3, fun w hw h => ⟨a, b, c, r, (qw.iff hw).mp h⟩, fun w hw e2 h2 => (qw.iff hw).mpr (by rw [r.uniq h2.2.2.2.1]; exact h2.2.2.2.2)⟩
  · exact Or.inr ⟨by omega, fun w e h => ltr_dgt h.2.2.1 c⟩
  · exact Or.inr ⟨by omega, fun w e h => c h.2.2.1⟩
  · exact Or.inr ⟨by omega, fun w e h => by rw [a] at h; exact absurd h.1 (by decide)⟩
theorem TX.end0 (hX : TX σ N t s g) (h : σ 20 1 = 0) : s = N := by
  rcases hX.view with ⟨a, q⟩ | ⟨e, a, b, c, r, q, q3, qw⟩ | ⟨e, a, b, c, r, q, q3, qn⟩ | ⟨a, b, c, c2, q, q3⟩ | ⟨a, b, c, q⟩
  · exact a
  all_goals omega
theorem TX.end1 (hX : TX σ N t s g) (h : σ 20 1 ≠ 0) : s < N := by
  rcases hX.view with ⟨a, q⟩ | ⟨e, a, b, c, r, q, q3, qw⟩ | ⟨e, a, b, c, r, q, q3, qn⟩ | ⟨a, b, c, c2, q, q3⟩ | ⟨a, b, c, q⟩
  all_goals first | exact absurd q h | omega
/-- the end of a test of the model -/
theorem T_end (h : QT σ N t 2 s g rc ws [] o) (hK : ∀ σ', QT σ' N t 2 s g (ws.reverse ++ rc) [] [] o → Fr fqL fqT σ σ' → K none σ') : TS d 0 K σ := by
  intro o2
  have six : ∀ (ws rc : List Int) (σ' : mM), QT σ' N t 2 s g rc ws [] o → Fr fqL fqT σ σ' → (∀ σ2, QT σ2 N t 2 s g (ws.reverse ++ rc) [] [] o → Fr fqL fqT σ σ2 → K none σ2) → At (d + 12) 254 6 [some (.inr (.inr 146)), some (.inl 0), o2] [] σ' K := by
    intro ws
    induction ws with
    | nil =>
      intro rc σ' q f hfin
      have e91 : σ' 146 91 = 0 := q.1.2.2.2.2.2.2.1.1
      refine At.blk rfl rfl rfl fun sx => ?_
      simp (decide := true) only [RR, ms_app, toList_some, toList_none, if_true, if_false, true_and, and_true, cond_true, sm0, sm1, sm1l, sm2, lc_lt, lc_gt, lc_eq, Int.toNat_natCast, Int.reduceToNat, Nat.reduceAdd, Nat.reduceEqDiff, Int.reduceLT, Int.reduceEq, Int.reduceNeg, Int.reduceAdd, Int.reduceMul, Nat.reduceMul, ms_n, ms_i, ms_l, ms_p, PM, q.1.2.2.1, e91]
      refine At.blk rfl rfl rfl fun sx => ?_
      simp (decide := true) only [RR, ms_app, toList_some, toList_none, if_true, if_false, true_and, and_true, cond_true, sm0, sm1, sm1l, sm2, lc_lt, lc_gt, lc_eq, Int.toNat_natCast, Int.reduceToNat, Nat.reduceAdd, Nat.reduceEqDiff, Int.reduceLT, Int.reduceEq, Int.reduceNeg, Int.reduceAdd, Int.reduceMul, Nat.reduceMul, ms_n, ms_i, ms_l, ms_p, PM]
      exact hfin σ' q f
    | cons x ws ih =>
      intro rc σ' q f hfin
      obtain ⟨sN, n16⟩ := q.le
      have hlt := q.2.1
      simp only [List.cons_append, List.length_cons, List.append_nil] at hlt
      have e91 : σ' 146 91 = ((ws.length + 1 : Nat) : Int) := by have := q.1.2.2.2.2.2.2.1.1; rw [List.append_nil] at this; exact this
      refine At.blk rfl rfl rfl fun sx => ?_
      simp (decide := true) only [RR, ms_app, toList_some, toList_none, if_true, if_false, true_and, and_true, cond_true, sm0, sm1, sm1l, sm2, lc_lt, lc_gt, lc_eq, Int.toNat_natCast, Int.reduceToNat, Nat.reduceAdd, Nat.reduceEqDiff, Int.reduceLT, Int.reduceEq, Int.reduceNeg, Int.reduceAdd, Int.reduceMul, Nat.reduceMul, ms_n, ms_i, ms_l, ms_p, PM, q.1.2.2.1, e91]
      rw [if_pos (by omega)]
      refine cal_of rfl (m_qDrops (x := x) (up := ws) q.1 (fun σ3 m3 f3 => ?_))
      simp (decide := true) only [RR, ms_app, toList_some, toList_none, if_true, if_false, true_and, and_true, cond_true, sm0, sm1, sm1l, sm2, lc_lt, lc_gt, lc_eq, Int.toNat_natCast, Int.reduceToNat, Nat.reduceAdd, Nat.reduceEqDiff, Int.reduceLT, Int.reduceEq, Int.reduceNeg, Int.reduceAdd, Int.reduceMul, Nat.reduceMul, ms_n, ms_i, ms_l, ms_p, PM]
      refine ih (x :: rc) σ3 ⟨m3, by simp only [List.length_cons, List.append_nil]; omega, q.2.2⟩ (f.trans f3) (fun σ4 q4 f4 => hfin σ4 ?_ f4)
      rw [List.reverse_cons, List.append_assoc]
      exact q4
  refine At.blk rfl rfl rfl fun sx => ?_
  simp (decide := true) only [RR, ms_app, toList_some, toList_none, if_true, if_false, true_and, and_true, cond_true, sm0, sm1, sm1l, sm2, lc_lt, lc_gt, lc_eq, Int.toNat_natCast, Int.reduceToNat, Nat.reduceAdd, Nat.reduceEqDiff, Int.reduceLT, Int.reduceEq, Int.reduceNeg, Int.reduceAdd, Int.reduceMul, Nat.reduceMul, ms_n, ms_i, ms_l, ms_p, PM]
  exact six ws rc σ h Fr.same hK
theorem T_out {z : Int} (hb : σ 146 5 ≠ 0) (hK : K none σ) : TS d z K σ := by
  intro o2
  have six : At (d + 12) 254 6 [some (.inr (.inr 146)), some (.inl z), o2] [] σ K := by
    refine At.blk rfl rfl rfl fun sx => ?_
    simp (decide := true) only [RR, ms_app, toList_some, toList_none, if_true, if_false, true_and, and_true, cond_true, sm0, sm1, sm1l, sm2, lc_lt, lc_gt, lc_eq, Int.toNat_natCast, Int.reduceToNat, Nat.reduceAdd, Nat.reduceEqDiff, Int.reduceLT, Int.reduceEq, Int.reduceNeg, Int.reduceAdd, Int.reduceMul, Nat.reduceMul, ms_n, ms_i, ms_l, ms_p, PM]
    rw [if_neg hb]
    refine At.blk rfl rfl rfl fun sx => ?_
    simp (decide := true) only [RR, ms_app, toList_some, toList_none, if_true, if_false, true_and, and_true, cond_true, sm0, sm1, sm1l, sm2, lc_lt, lc_gt, lc_eq, Int.toNat_natCast, Int.reduceToNat, Nat.reduceAdd, Nat.reduceEqDiff, Int.reduceLT, Int.reduceEq, Int.reduceNeg, Int.reduceAdd, Int.reduceMul, Nat.reduceMul, ms_n, ms_i, ms_l, ms_p, PM]
    exact hK
  refine At.blk rfl rfl rfl fun sx => ?_
  simp (decide := true) only [RR, ms_app, toList_some, toList_none, if_true, if_false, true_and, and_true, cond_true, sm0, sm1, sm1l, sm2, lc_lt, lc_gt, lc_eq, Int.toNat_natCast, Int.reduceToNat, Nat.reduceAdd, Nat.reduceEqDiff, Int.reduceLT, Int.reduceEq, Int.reduceNeg, Int.reduceAdd, Int.reduceMul, Nat.reduceMul, ms_n, ms_i, ms_l, ms_p, PM]
  by_cases c : z = 0
  · rw [if_pos c]; exact six
  · rw [if_neg c, if_neg hb]; exact six
theorem m_test_ok {s' : Nat} {g' : Bool} {cs : List Int} (h : QT σ N t 2 s g [] [] [] 0) (hs : tAT N t 0 s g s' g' cs) (hK : ∀ σ', QT σ' N t 2 s' g' cs.reverse [] [] 0 → Fr fqL fqT σ σ' → K none σ') : Mt (d + 13) 254 [.inr (.inr 146)] σ K := by
  refine Mt.go (lv := [some (.inr (.inr 146)), none, none]) rfl rfl rfl ?_
  obtain ⟨-, -, ss, na, no⟩ := hs
  refine At.blk rfl rfl rfl fun sx => ?_
  simp (decide := true) only [RR, ms_app, toList_some, toList_none, if_true, if_false, true_and, and_true, cond_true, sm0, sm1, sm1l, sm2, lc_lt, lc_gt, lc_eq, Int.toNat_natCast, Int.reduceToNat, Nat.reduceAdd, Nat.reduceEqDiff, Int.reduceLT, Int.reduceEq, Int.reduceNeg, Int.reduceAdd, Int.reduceMul, Nat.reduceMul, ms_n, ms_i, ms_l, ms_p, PM]
  refine ss d K σ [] [] h ⟨by show ¬(1 ≤ (0 : Int) ∧ (0 : Int) ≤ 4); decide, by show (0 : Int) ≠ 10; decide, by show (0 : Int) ≠ 11; decide, by show (0 : Int) ≠ 12; decide⟩ (fun σ2 rc2 p q2 e2 hp f2 => ?_) _
  rw [List.append_nil] at q2
  refine TG_fin q2 (fun hm => by have := hp 25 hm; omega) na no (fun σ3 q3 _ f3 => T_end q3 (fun σ4 q4 f4 => ?_))
  rw [e2, List.append_nil] at q4
  exact hK σ4 q4 ((f2.trans f3).trans f4)
theorem m_test_no {k p : Int} (h : QT σ N t 2 s g [] [] [] 0) (hs : TTno N t 0 s g k p) (hK : ∀ σ', σ' 146 5 = k → σ' 146 6 = p → Fr fqL fqT σ σ' → K none σ') : Mt (d + 13) 254 [.inr (.inr 146)] σ K := by
  refine Mt.go (lv := [some (.inr (.inr 146)), none, none]) rfl rfl rfl ?_
  refine At.blk rfl rfl rfl fun sx => ?_
  simp (decide := true) only [RR, ms_app, toList_some, toList_none, if_true, if_false, true_and, and_true, cond_true, sm0, sm1, sm1l, sm2, lc_lt, lc_gt, lc_eq, Int.toNat_natCast, Int.reduceToNat, Nat.reduceAdd, Nat.reduceEqDiff, Int.reduceLT, Int.reduceEq, Int.reduceNeg, Int.reduceAdd, Int.reduceMul, Nat.reduceMul, ms_n, ms_i, ms_l, ms_p, PM]
  exact hs.2 d K σ [] [] h ⟨by show ¬(1 ≤ (0 : Int) ∧ (0 : Int) ≤ 4); decide, by show (0 : Int) ≠ 10; decide, by show (0 : Int) ≠ 11; decide, by show (0 : Int) ≠ 12; decide⟩ ⟨hs.1, fun σ2 z e5 e6 f2 => T_out (by rw [e5]; exact hs.1) (hK σ2 e5 e6 f2)⟩ _
end
/-! parseQuestion -/
def pqL : List Nat := [16, 17, 18]
def pqT : List (Nat × Nat) := [(20, 1), (20, 2), (20, 3), (20, 4), (20, 5), (19, 2), (19, 3), (19, 4), (19, 5), (15, 3)]
/-- a good question: its kind j, its codes -/
def QuOk (N : Nat) (t : Nat → Int) (j : Nat) (cs : List Int) (e s0 s1 : Nat) (g' : Bool) : Prop := j < 6 ∧ Skp N t 0 s0 ∧ IsWd N t s0 false e (kdW j) ∧ Skp N t e s1 ∧ cs.length ≤ 1600 ∧ (j < 3 → tAT N t 0 s1 (decide (s1 = e)) N g' cs) ∧ (¬j < 3 → AS N t 2 0 s1 (decide (s1 = e)) N g' cs)
/-- a bad one: its fault, its place -/
def QuNo (N : Nat) (t : Nat → Int) (k p : Int) : Prop := ∃ s0, Skp N t 0 s0 ∧ ((k = 1 ∧ p = (s0 : Int) ∧ ∀ j, j < 6 → ∀ e, ¬IsWd N t s0 false e (kdW j)) ∨ ∃ j e s1, j < 6 ∧ IsWd N t s0 false e (kdW j) ∧ Skp N t e s1 ∧
  ((j < 3 ∧ TTno N t 0 s1 (decide (s1 = e)) k p) ∨ (¬j < 3 ∧ SSno N t 2 0 s1 (decide (s1 = e)) k p) ∨ ∃ s' g' cs, s' < N ∧ k = 1 ∧ p = (s' : Int) ∧ (j < 3 → tAT N t 0 s1 (decide (s1 = e)) s' g' cs) ∧ (¬j < 3 → AS N t 2 0 s1 (decide (s1 = e)) s' g' cs)))
section
variable {d : Nat} {σ : mM} {K : Option mV → mM → Prop} {N : Nat} {t : Nat → Int}
theorem x_ropen {v : Int} (hF : Fix σ) (e : σ 15 3 = v) (hK : K none (mj_set σ 17 3 v)) : Mt (d + 1) 65 [.inr (.inr 15), .inl 3] σ K := by
  refine Mt.go (lv := [some (.inr (.inr 15)), some (.inl 3)]) rfl rfl rfl ?_
  refine At.blk rfl rfl rfl fun sx => ?_
  simp (decide := true) only [RR, ms_app, toList_some, toList_none, if_true, if_false, true_and, and_true, cond_true, sm0, sm1, sm1l, sm2, lc_lt, lc_gt, lc_eq, Int.toNat_natCast, Int.reduceToNat, Nat.reduceAdd, Nat.reduceEqDiff, Int.reduceLT, Int.reduceEq, Int.reduceNeg, Int.reduceAdd, Int.reduceMul, Nat.reduceMul, ms_n, ms_i, ms_l, ms_p, PX, fxX hF, e]
  exact hK
theorem x_rclose {v : Int} (hF : Fix σ) (e : σ 15 3 = v) (hK : K none (mj_set σ 18 3 v)) : Mt (d + 1) 66 [.inr (.inr 15), .inl 3] σ K := by
  refine Mt.go (lv := [some (.inr (.inr 15)), some (.inl 3)]) rfl rfl rfl ?_
  refine At.blk rfl rfl rfl fun sx => ?_
  simp (decide := true) only [RR, ms_app, toList_some, toList_none, if_true, if_false, true_and, and_true, cond_true, sm0, sm1, sm1l, sm2, lc_lt, lc_gt, lc_eq, Int.toNat_natCast, Int.reduceToNat, Nat.reduceAdd, Nat.reduceEqDiff, Int.reduceLT, Int.reduceEq, Int.reduceNeg, Int.reduceAdd, Int.reduceMul, Nat.reduceMul, ms_n, ms_i, ms_l, ms_p, PX, fxX hF, e]
  exact hK
theorem kd_test : ∀ j, j < 3 → ((kdW j : Int) = 17 ∨ (kdW j : Int) = 24 ∨ (kdW j : Int) = 25) := by decide
theorem kd_sum : ∀ j, j < 6 → ¬j < 3 → ¬((kdW j : Int) = 17 ∨ (kdW j : Int) = 24 ∨ (kdW j : Int) = 25) ∧ ((kdW j : Int) = 26 ∨ (kdW j : Int) = 10 ∨ (kdW j : Int) = 11) := by decide
theorem x_parseQuestion (hF : Fix σ) (hT : TxX σ N t) (h1 : ∀ σ' j cs e s0 s1 g', Fr pqL pqT σ σ' → QuOk N t j cs e s0 s1 g' → σ' 19 2 = 0 → σ' 19 3 = -1 → σ' 19 4 = (kdW j : Int) → σ' 17 3 = 0 → σ' 18 3 = (cs.length : Int) → (∀ (i : Nat) (h : i < cs.length), StepR (σ' 16 i) cs[i]) → K (some (.inl 1)) σ') (h0 : ∀ σ' k p, Fr pqL pqT σ σ' → QuNo N t k p → k ≠ 0 → σ' 19 2 = k → σ' 19 3 = p → K (some (.inl 0)) σ') : Mt (d + 43) 35 [.inr (.inr 19)] σ K := by
  have n16 := hT.2.1
  refine Mt.go (lv := [some (.inr (.inr 19))]) rfl rfl rfl ?_
  refine At.blk rfl rfl rfl fun sx => ?_
  simp (decide := true) only [RR, ms_app, toList_some, toList_none, if_true, if_false, true_and, and_true, cond_true, sm0, sm1, sm1l, sm2, lc_lt, lc_gt, lc_eq, Int.toNat_natCast, Int.reduceToNat, Nat.reduceAdd, Nat.reduceEqDiff, Int.reduceLT, Int.reduceEq, Int.reduceNeg, Int.reduceAdd, Int.reduceMul, Nat.reduceMul, ms_n, ms_i, ms_l, ms_p, PX]
  refine cal_of rfl (x_restart hF hT (fun σ1 s0 f1 e2 e3 k0 x0 => ?_))
  have F1 : Fr pqL pqT σ σ1 := f1.mono rfl
  have hF1 := hF.fr F1 rfl
  have hT1 : TxX σ1 N t := hT.cg (F1 1 1 rfl) (F1.row 2 rfl)
  have s0N := x0.le
  -- not a question's word
  have bad : ∀ w : Int, (∀ j, j < 6 → w ≠ (kdW j : Int)) → (∀ j, j < 6 → ∀ e, ¬IsWd N t s0 false e (kdW j)) → At (d + 42) 35 2 [some (.inr (.inr 19))] [.inl w, .inr (.inr 19)] σ1 K := by
    intro w hw hn
    have a0 : w ≠ 17 := hw 0 (by decide)
    have a1 : w ≠ 24 := hw 1 (by decide)
    have a2 : w ≠ 25 := hw 2 (by decide)
    have a3 : w ≠ 26 := hw 3 (by decide)
    have a4 : w ≠ 10 := hw 4 (by decide)
    have a5 : w ≠ 11 := hw 5 (by decide)
    have hF2 : Fix (mj_set σ1 19 4 w) := hF1.set rfl
    refine At.blk rfl rfl rfl fun sx => ?_
    simp (decide := true) only [RR, ms_app, toList_some, toList_none, if_true, if_false, true_and, and_true, cond_true, sm0, sm1, sm1l, sm2, lc_lt, lc_gt, lc_eq, Int.toNat_natCast, Int.reduceToNat, Nat.reduceAdd, Nat.reduceEqDiff, Int.reduceLT, Int.reduceEq, Int.reduceNeg, Int.reduceAdd, Int.reduceMul, Nat.reduceMul, ms_n, ms_i, ms_l, ms_p, PX]
    refine cal_of rfl (x_asks (w := w) rfl ?_)
    rw [if_neg (by omega)]
    simp (decide := true) only [RR, ms_app, toList_some, toList_none, if_true, if_false, true_and, and_true, cond_true, sm0, sm1, sm1l, sm2, lc_lt, lc_gt, lc_eq, Int.toNat_natCast, Int.reduceToNat, Nat.reduceAdd, Nat.reduceEqDiff, Int.reduceLT, Int.reduceEq, Int.reduceNeg, Int.reduceAdd, Int.reduceMul, Nat.reduceMul, ms_n, ms_i, ms_l, ms_p, PX]
    refine cal_of rfl (x_asksSum (w := w) rfl ?_)
    rw [if_neg (by omega)]
    have st := (x0.cg (σ' := mj_set σ1 19 4 w) rfl).st
    simp (decide := true) only [RR, ms_app, toList_some, toList_none, if_true, if_false, true_and, and_true, cond_true, sm0, sm1, sm1l, sm2, lc_lt, lc_gt, lc_eq, Int.toNat_natCast, Int.reduceToNat, Nat.reduceAdd, Nat.reduceEqDiff, Int.reduceLT, Int.reduceEq, Int.reduceNeg, Int.reduceAdd, Int.reduceMul, Nat.reduceMul, ms_n, ms_i, ms_l, ms_p, PX, fxX hF1, x0.st]
    refine cal_of rfl (x_fail ?_)
    simp (decide := true) only [RR, ms_app, toList_some, toList_none, if_true, if_false, true_and, and_true, cond_true, sm0, sm1, sm1l, sm2, lc_lt, lc_gt, lc_eq, Int.toNat_natCast, Int.reduceToNat, Nat.reduceAdd, Nat.reduceEqDiff, Int.reduceLT, Int.reduceEq, Int.reduceNeg, Int.reduceAdd, Int.reduceMul, Nat.reduceMul, ms_n, ms_i, ms_l, ms_p, PX]
    exact h0 _ 1 s0 (((F1.set rfl).set rfl).set rfl) ⟨s0, k0, Or.inl ⟨rfl, rfl, hn⟩⟩ (by decide) rfl rfl
  -- a question's word
  have good : ∀ (j e : Nat), j < 6 → IsWd N t s0 false e (kdW j) → σ1 20 1 = 1 → σ1 20 3 = (e : Int) → At (d + 42) 35 2 [some (.inr (.inr 19))] [.inl (kdW j : Int), .inr (.inr 19)] σ1 K := by
    intro j e hj hi q1 q3
    have hlt := hi.lt (kdW_lt j hj)
    have e27 := hi.2.2.2.1.2.1
    have F2 : Fr pqL pqT σ (mj_set σ1 19 4 (kdW j : Int)) := F1.set rfl
    have b2 : mj_set σ1 19 4 (kdW j : Int) 19 2 = 0 := e2
    have b3 : mj_set σ1 19 4 (kdW j : Int) 19 3 = -1 := e3
    have b4 : mj_set σ1 19 4 (kdW j : Int) 19 4 = (kdW j : Int) := rfl
    have c1 : mj_set σ1 19 4 (kdW j : Int) 20 1 = 1 := q1
    have c3 : mj_set σ1 19 4 (kdW j : Int) 20 3 = (e : Int) := q3
    refine At.blk rfl rfl rfl fun sx => ?_
    simp (decide := true) only [RR, ms_app, toList_some, toList_none, if_true, if_false, true_and, and_true, cond_true, sm0, sm1, sm1l, sm2, lc_lt, lc_gt, lc_eq, Int.toNat_natCast, Int.reduceToNat, Nat.reduceAdd, Nat.reduceEqDiff, Int.reduceLT, Int.reduceEq, Int.reduceNeg, Int.reduceAdd, Int.reduceMul, Nat.reduceMul, ms_n, ms_i, ms_l, ms_p, PX]
    generalize mj_set σ1 19 4 (kdW j : Int) = σ2 at *
    have hF2 := hF.fr F2 rfl
    have hT2 : TxX σ2 N t := hT.cg (F2 1 1 rfl) (F2.row 2 rfl)
    have three : At (d + 42) 35 3 [some (.inr (.inr 19))] [] σ2 K := by
      refine At.blk rfl rfl rfl fun sx => ?_
      simp (decide := true) only [RR, ms_app, toList_some, toList_none, if_true, if_false, true_and, and_true, cond_true, sm0, sm1, sm1l, sm2, lc_lt, lc_gt, lc_eq, Int.toNat_natCast, Int.reduceToNat, Nat.reduceAdd, Nat.reduceEqDiff, Int.reduceLT, Int.reduceEq, Int.reduceNeg, Int.reduceAdd, Int.reduceMul, Nat.reduceMul, ms_n, ms_i, ms_l, ms_p, PX, fxX hF2]
      refine cal_of rfl (x_next hF2 hT2 c1 c3 e27 (fun σ3 s1 f3 k1 x1 => ?_))
      rw [show decide (((1 : Int) = 1 ∨ (1 : Int) = 2) ∧ s1 = e) = decide (s1 = e) by simp] at x1
      have k11 := k1.1
      have F3 : Fr pqL pqT σ σ3 := F2.trans (f3.mono rfl)
      have hF3 := hF.fr F3 rfl
      simp (decide := true) only [RR, ms_app, toList_some, toList_none, if_true, if_false, true_and, and_true, cond_true, sm0, sm1, sm1l, sm2, lc_lt, lc_gt, lc_eq, Int.toNat_natCast, Int.reduceToNat, Nat.reduceAdd, Nat.reduceEqDiff, Int.reduceLT, Int.reduceEq, Int.reduceNeg, Int.reduceAdd, Int.reduceMul, Nat.reduceMul, ms_n, ms_i, ms_l, ms_p, PX, fxX hF3]
      refine cal_of rfl (x_rclear hF3 (fun σ4 f4 e4 => ?_))
      have F4 : Fr pqL pqT σ σ4 := F3.trans (f4.mono rfl)
      have hF4 := hF.fr F4 rfl
      have hF4' : Fix (mj_set σ4 19 5 3) := hF4.set rfl
      simp (decide := true) only [RR, ms_app, toList_some, toList_none, if_true, if_false, true_and, and_true, cond_true, sm0, sm1, sm1l, sm2, lc_lt, lc_gt, lc_eq, Int.toNat_natCast, Int.reduceToNat, Nat.reduceAdd, Nat.reduceEqDiff, Int.reduceLT, Int.reduceEq, Int.reduceNeg, Int.reduceAdd, Int.reduceMul, Nat.reduceMul, ms_n, ms_i, ms_l, ms_p, PX, fxX hF4]
      refine cal_of rfl (x_ropen (v := 0) hF4' e4 ?_)
      have F5 : Fr pqL pqT σ (mj_set (mj_set σ4 19 5 3) 17 3 0) := (F4.set rfl).set rfl
      have g2 : mj_set (mj_set σ4 19 5 3) 17 3 0 19 2 = 0 := by show σ4 19 2 = 0; rw [f4 19 2 rfl, f3 19 2 rfl]; exact b2
      have g3 : mj_set (mj_set σ4 19 5 3) 17 3 0 19 3 = -1 := by show σ4 19 3 = -1; rw [f4 19 3 rfl, f3 19 3 rfl]; exact b3
      have g4 : mj_set (mj_set σ4 19 5 3) 17 3 0 19 4 = (kdW j : Int) := by show σ4 19 4 = _; rw [f4 19 4 rfl, f3 19 4 rfl]; exact b4
      have g5 : mj_set (mj_set σ4 19 5 3) 17 3 0 19 5 = 3 := rfl
      have g15 : mj_set (mj_set σ4 19 5 3) 17 3 0 15 3 = ((0 : Nat) : Int) := e4
      have g17 : mj_set (mj_set σ4 19 5 3) 17 3 0 17 3 = 0 := rfl
      have x5 : TX (mj_set (mj_set σ4 19 5 3) 17 3 0) N t s1 (decide (s1 = e)) := x1.cg (by show σ4 20 = _; exact f4.row 20 rfl)
      simp (decide := true) only [RR, ms_app, toList_some, toList_none, if_true, if_false, true_and, and_true, cond_true, sm0, sm1, sm1l, sm2, lc_lt, lc_gt, lc_eq, Int.toNat_natCast, Int.reduceToNat, Nat.reduceAdd, Nat.reduceEqDiff, Int.reduceLT, Int.reduceEq, Int.reduceNeg, Int.reduceAdd, Int.reduceMul, Nat.reduceMul, ms_n, ms_i, ms_l, ms_p, PX]
      generalize mj_set (mj_set σ4 19 5 3) 17 3 0 = σ5 at *
      have hF5 := hF.fr F5 rfl
      have hT5 : TxX σ5 N t := hT.cg (F5 1 1 rfl) (F5.row 2 rfl)
      have five : ∀ σ' k p, Fr xqL xqT σ5 σ' → σ' 19 2 = k → σ' 19 3 = p → k ≠ 0 → QuNo N t k p → At (d + 42) 35 5 [some (.inr (.inr 19))] [] σ' K := by
        intro σ' k p f a1 a2 a3 a4
        refine At.blk rfl rfl rfl fun sx => ?_
        simp (decide := true) only [RR, ms_app, toList_some, toList_none, if_true, if_false, true_and, and_true, cond_true, sm0, sm1, sm1l, sm2, lc_lt, lc_gt, lc_eq, Int.toNat_natCast, Int.reduceToNat, Nat.reduceAdd, Nat.reduceEqDiff, Int.reduceLT, Int.reduceEq, Int.reduceNeg, Int.reduceAdd, Int.reduceMul, Nat.reduceMul, ms_n, ms_i, ms_l, ms_p, PX]
        exact h0 σ' k p (F5.trans (f.mono rfl)) a4 a3 a1 a2
      have six : ∀ σ6 s' g' cs, Fr xqL xqT σ5 σ6 → TX σ6 N t s' g' → s1 < s' → cs.length ≤ s' - s1 → ApX 0 σ5 σ6 cs → (j < 3 → tAT N t 0 s1 (decide (s1 = e)) s' g' cs) → (¬j < 3 → AS N t 2 0 s1 (decide (s1 = e)) s' g' cs) → At (d + 42) 35 6 [some (.inr (.inr 19))] [] σ6 K := by
        intro σ6 s' g' cs f6 x6 hs' hc a6 hA hS
        have F6 : Fr pqL pqT σ σ6 := F5.trans (f6.mono rfl)
        have hF6 := hF.fr F6 rfl
        have s'N := x6.le
        refine At.blk rfl rfl rfl fun sx => ?_
        simp (decide := true) only [RR, ms_app, toList_some, toList_none, if_true, if_false, true_and, and_true, cond_true, sm0, sm1, sm1l, sm2, lc_lt, lc_gt, lc_eq, Int.toNat_natCast, Int.reduceToNat, Nat.reduceAdd, Nat.reduceEqDiff, Int.reduceLT, Int.reduceEq, Int.reduceNeg, Int.reduceAdd, Int.reduceMul, Nat.reduceMul, ms_n, ms_i, ms_l, ms_p, PX, fxX hF6]
        refine cal_of rfl (x_rclose (v := (cs.length : Int)) hF6 (by rw [a6.1, Nat.zero_add]) ?_)
        simp (decide := true) only [RR, ms_app, toList_some, toList_none, if_true, if_false, true_and, and_true, cond_true, sm0, sm1, sm1l, sm2, lc_lt, lc_gt, lc_eq, Int.toNat_natCast, Int.reduceToNat, Nat.reduceAdd, Nat.reduceEqDiff, Int.reduceLT, Int.reduceEq, Int.reduceNeg, Int.reduceAdd, Int.reduceMul, Nat.reduceMul, ms_n, ms_i, ms_l, ms_p, PX, fxX hF6]
        by_cases ck : σ6 20 1 = 0
        · rw [if_pos ck]
          have hN := x6.end0 ck
          subst hN
          refine At.blk rfl rfl rfl fun sx => ?_
          simp (decide := true) only [RR, ms_app, toList_some, toList_none, if_true, if_false, true_and, and_true, cond_true, sm0, sm1, sm1l, sm2, lc_lt, lc_gt, lc_eq, Int.toNat_natCast, Int.reduceToNat, Nat.reduceAdd, Nat.reduceEqDiff, Int.reduceLT, Int.reduceEq, Int.reduceNeg, Int.reduceAdd, Int.reduceMul, Nat.reduceMul, ms_n, ms_i, ms_l, ms_p, PX]
          refine At.blk rfl rfl rfl fun sx => ?_
          simp (decide := true) only [RR, ms_app, toList_some, toList_none, if_true, if_false, true_and, and_true, cond_true, sm0, sm1, sm1l, sm2, lc_lt, lc_gt, lc_eq, Int.toNat_natCast, Int.reduceToNat, Nat.reduceAdd, Nat.reduceEqDiff, Int.reduceLT, Int.reduceEq, Int.reduceNeg, Int.reduceAdd, Int.reduceMul, Nat.reduceMul, ms_n, ms_i, ms_l, ms_p, PX]
          refine h1 _ j cs e s0 s1 g' (F6.set rfl) ⟨hj, k0, hi, k1, by omega, hA, hS⟩ (a6.2.1.2.1.trans g2) (a6.2.1.2.2.trans g3) ((f6 19 4 rfl).trans g4) ((f6 17 3 rfl).trans g17) rfl (fun i h => ?_)
          have := a6.2.2 i h
          rw [Nat.zero_add] at this
          exact this
        · rw [if_neg ck]
          simp (decide := true) only [RR, ms_app, toList_some, toList_none, if_true, if_false, true_and, and_true, cond_true, sm0, sm1, sm1l, sm2, lc_lt, lc_gt, lc_eq, Int.toNat_natCast, Int.reduceToNat, Nat.reduceAdd, Nat.reduceEqDiff, Int.reduceLT, Int.reduceEq, Int.reduceNeg, Int.reduceAdd, Int.reduceMul, Nat.reduceMul, ms_n, ms_i, ms_l, ms_p, PX, x6.st]
          refine cal_of rfl (x_fail ?_)
          simp (decide := true) only [RR, ms_app, toList_some, toList_none, if_true, if_false, true_and, and_true, cond_true, sm0, sm1, sm1l, sm2, lc_lt, lc_gt, lc_eq, Int.toNat_natCast, Int.reduceToNat, Nat.reduceAdd, Nat.reduceEqDiff, Int.reduceLT, Int.reduceEq, Int.reduceNeg, Int.reduceAdd, Int.reduceMul, Nat.reduceMul, ms_n, ms_i, ms_l, ms_p, PX]
          refine At.blk rfl rfl rfl fun sx => ?_
          simp (decide := true) only [RR, ms_app, toList_some, toList_none, if_true, if_false, true_and, and_true, cond_true, sm0, sm1, sm1l, sm2, lc_lt, lc_gt, lc_eq, Int.toNat_natCast, Int.reduceToNat, Nat.reduceAdd, Nat.reduceEqDiff, Int.reduceLT, Int.reduceEq, Int.reduceNeg, Int.reduceAdd, Int.reduceMul, Nat.reduceMul, ms_n, ms_i, ms_l, ms_p, PX]
          refine At.blk rfl rfl rfl fun sx => ?_
          simp (decide := true) only [RR, ms_app, toList_some, toList_none, if_true, if_false, true_and, and_true, cond_true, sm0, sm1, sm1l, sm2, lc_lt, lc_gt, lc_eq, Int.toNat_natCast, Int.reduceToNat, Nat.reduceAdd, Nat.reduceEqDiff, Int.reduceLT, Int.reduceEq, Int.reduceNeg, Int.reduceAdd, Int.reduceMul, Nat.reduceMul, ms_n, ms_i, ms_l, ms_p, PX]
          exact h0 _ 1 s' (((F6.set rfl).set rfl).set rfl) ⟨s0, k0, Or.inr ⟨j, e, s1, hj, hi, k1, Or.inr (Or.inr ⟨s', g', cs, x6.end1 ck, rfl, rfl, hA, hS⟩)⟩⟩ (by decide) rfl rfl
      refine cal_of rfl (x_asks g4 ?_)
      by_cases c : j < 3
      · rw [if_pos (kd_test j c)]
        simp (decide := true) only [RR, ms_app, toList_some, toList_none, if_true, if_false, true_and, and_true, cond_true, sm0, sm1, sm1l, sm2, lc_lt, lc_gt, lc_eq, Int.toNat_natCast, Int.reduceToNat, Nat.reduceAdd, Nat.reduceEqDiff, Int.reduceLT, Int.reduceEq, Int.reduceNeg, Int.reduceAdd, Int.reduceMul, Nat.reduceMul, ms_n, ms_i, ms_l, ms_p, PX]
        refine cal_of rfl ((Y_all (N := N) (t := t) _ 0 rfl (by omega)).2 (d + 42) σ5 _ s1 (decide (s1 = e)) 0 (by unfold eT; omega) hF5 hT5 x5 g15 (by omega) g5 (fun σ6 s' g' cs f6 x6 hs6 hc6 a6 hA => ?_) (fun σ6 k p f6 a1 a2 hB => ?_))
        · simp (decide := true) only [RR, ms_app, toList_some, toList_none, if_true, if_false, true_and, and_true, cond_true, sm0, sm1, sm1l, sm2, lc_lt, lc_gt, lc_eq, Int.toNat_natCast, Int.reduceToNat, Nat.reduceAdd, Nat.reduceEqDiff, Int.reduceLT, Int.reduceEq, Int.reduceNeg, Int.reduceAdd, Int.reduceMul, Nat.reduceMul, ms_n, ms_i, ms_l, ms_p, PX]
          exact six σ6 s' g' cs f6 x6 hs6 hc6 a6 (fun _ => hA) (fun h => absurd c h)
        · simp (decide := true) only [RR, ms_app, toList_some, toList_none, if_true, if_false, true_and, and_true, cond_true, sm0, sm1, sm1l, sm2, lc_lt, lc_gt, lc_eq, Int.toNat_natCast, Int.reduceToNat, Nat.reduceAdd, Nat.reduceEqDiff, Int.reduceLT, Int.reduceEq, Int.reduceNeg, Int.reduceAdd, Int.reduceMul, Nat.reduceMul, ms_n, ms_i, ms_l, ms_p, PX]
          exact five σ6 k p f6 a1 a2 hB.1 ⟨s0, k0, Or.inr ⟨j, e, s1, hj, hi, k1, Or.inl ⟨c, hB⟩⟩⟩
      · rw [if_neg (kd_sum j hj c).1]
        simp (decide := true) only [RR, ms_app, toList_some, toList_none, if_true, if_false, true_and, and_true, cond_true, sm0, sm1, sm1l, sm2, lc_lt, lc_gt, lc_eq, Int.toNat_natCast, Int.reduceToNat, Nat.reduceAdd, Nat.reduceEqDiff, Int.reduceLT, Int.reduceEq, Int.reduceNeg, Int.reduceAdd, Int.reduceMul, Nat.reduceMul, ms_n, ms_i, ms_l, ms_p, PX]
        refine At.blk rfl rfl rfl fun sx => ?_
        simp (decide := true) only [RR, ms_app, toList_some, toList_none, if_true, if_false, true_and, and_true, cond_true, sm0, sm1, sm1l, sm2, lc_lt, lc_gt, lc_eq, Int.toNat_natCast, Int.reduceToNat, Nat.reduceAdd, Nat.reduceEqDiff, Int.reduceLT, Int.reduceEq, Int.reduceNeg, Int.reduceAdd, Int.reduceMul, Nat.reduceMul, ms_n, ms_i, ms_l, ms_p, PX]
        refine cal_of rfl ((X_all (N := N) (t := t) (sc := 3) (tk := 2) (Or.inr (Or.inr (Or.inr ⟨rfl, rfl⟩))) _ 0 rfl (by omega)).2 (d + 42) σ5 _ s1 (decide (s1 = e)) 0 (by unfold dS; omega) hF5 hT5 x5 g15 (by omega) g5 (fun σ6 s' g' cs f6 x6 hs6 hc6 a6 hA => ?_) (fun σ6 k p f6 a1 a2 hB => ?_))
        · simp (decide := true) only [RR, ms_app, toList_some, toList_none, if_true, if_false, true_and, and_true, cond_true, sm0, sm1, sm1l, sm2, lc_lt, lc_gt, lc_eq, Int.toNat_natCast, Int.reduceToNat, Nat.reduceAdd, Nat.reduceEqDiff, Int.reduceLT, Int.reduceEq, Int.reduceNeg, Int.reduceAdd, Int.reduceMul, Nat.reduceMul, ms_n, ms_i, ms_l, ms_p, PX]
          exact six σ6 s' g' cs f6 x6 hs6 hc6 a6 (fun h => absurd h c) (fun _ => hA)
        · simp (decide := true) only [RR, ms_app, toList_some, toList_none, if_true, if_false, true_and, and_true, cond_true, sm0, sm1, sm1l, sm2, lc_lt, lc_gt, lc_eq, Int.toNat_natCast, Int.reduceToNat, Nat.reduceAdd, Nat.reduceEqDiff, Int.reduceLT, Int.reduceEq, Int.reduceNeg, Int.reduceAdd, Int.reduceMul, Nat.reduceMul, ms_n, ms_i, ms_l, ms_p, PX]
          exact five σ6 k p f6 a1 a2 hB.1 ⟨s0, k0, Or.inr ⟨j, e, s1, hj, hi, k1, Or.inr (Or.inl ⟨c, hB⟩)⟩⟩
    refine cal_of rfl (x_asks b4 ?_)
    by_cases c : j < 3
    · rw [if_pos (kd_test j c)]
      simp (decide := true) only [RR, ms_app, toList_some, toList_none, if_true, if_false, true_and, and_true, cond_true, sm0, sm1, sm1l, sm2, lc_lt, lc_gt, lc_eq, Int.toNat_natCast, Int.reduceToNat, Nat.reduceAdd, Nat.reduceEqDiff, Int.reduceLT, Int.reduceEq, Int.reduceNeg, Int.reduceAdd, Int.reduceMul, Nat.reduceMul, ms_n, ms_i, ms_l, ms_p, PX]
      exact three
    · rw [if_neg (kd_sum j hj c).1]
      simp (decide := true) only [RR, ms_app, toList_some, toList_none, if_true, if_false, true_and, and_true, cond_true, sm0, sm1, sm1l, sm2, lc_lt, lc_gt, lc_eq, Int.toNat_natCast, Int.reduceToNat, Nat.reduceAdd, Nat.reduceEqDiff, Int.reduceLT, Int.reduceEq, Int.reduceNeg, Int.reduceAdd, Int.reduceMul, Nat.reduceMul, ms_n, ms_i, ms_l, ms_p, PX]
      refine cal_of rfl (x_asksSum b4 ?_)
      rw [if_pos (kd_sum j hj c).2]
      simp (decide := true) only [RR, ms_app, toList_some, toList_none, if_true, if_false, true_and, and_true, cond_true, sm0, sm1, sm1l, sm2, lc_lt, lc_gt, lc_eq, Int.toNat_natCast, Int.reduceToNat, Nat.reduceAdd, Nat.reduceEqDiff, Int.reduceLT, Int.reduceEq, Int.reduceNeg, Int.reduceAdd, Int.reduceMul, Nat.reduceMul, ms_n, ms_i, ms_l, ms_p, PX]
      exact three
  simp (decide := true) only [RR, ms_app, toList_some, toList_none, if_true, if_false, true_and, and_true, cond_true, sm0, sm1, sm1l, sm2, lc_lt, lc_gt, lc_eq, Int.toNat_natCast, Int.reduceToNat, Nat.reduceAdd, Nat.reduceEqDiff, Int.reduceLT, Int.reduceEq, Int.reduceNeg, Int.reduceAdd, Int.reduceMul, Nat.reduceMul, ms_n, ms_i, ms_l, ms_p, PX, fxX hF1]
  rcases x0.wd with ⟨e, q1, q3, wy, wn⟩ | ⟨q1, wn⟩
  · rw [if_pos q1]
    by_cases h : ∃ j, j < 6 ∧ σ1 20 4 = (kdW j : Int)
    · obtain ⟨j, hj, ew⟩ := h
      rw [ew]
      exact good j e hj (wy _ (kdW_lt j hj) ew) q1 q3
    · exact bad _ (fun j hj e => h ⟨j, hj, e⟩) (fun j hj e2 h2 => h ⟨j, hj, wn _ (kdW_lt j hj) e2 h2⟩)
  · rw [if_neg q1]
    refine At.blk rfl rfl rfl fun sx => ?_
    simp (decide := true) only [RR, ms_app, toList_some, toList_none, if_true, if_false, true_and, and_true, cond_true, sm0, sm1, sm1l, sm2, lc_lt, lc_gt, lc_eq, Int.toNat_natCast, Int.reduceToNat, Nat.reduceAdd, Nat.reduceEqDiff, Int.reduceLT, Int.reduceEq, Int.reduceNeg, Int.reduceAdd, Int.reduceMul, Nat.reduceMul, ms_n, ms_i, ms_l, ms_p, PX]
    exact bad (-1) (fun j hj => by omega) (fun j hj e => wn _ e)
end
