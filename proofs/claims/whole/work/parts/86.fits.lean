/-! what was seen -/
abbrev Sn : Type := Nat × (Nat → Int)
def SeX (σ : mM) (S : Sn) : Prop := σ 31 1 = (S.1 : Int) ∧ ∀ k, k < 3 * S.1 → σ 32 k = S.2 k
def SeM (σ : mM) (S : Sn) : Prop := σ 146 58 = (S.1 : Int) ∧ ∀ k, k < 3 * S.1 → σ 189 k = S.2 k
def SeV (C : Ct) (S : Sn) : Prop := S.1 ≤ 16 ∧ ∀ k, k < S.1 → (0 ≤ S.2 (3 * k) ∧ S.2 (3 * k) ≤ 30) ∧ (0 ≤ S.2 (3 * k + 1) ∧ S.2 (3 * k + 1) < C.1) ∧ 0 ≤ S.2 (3 * k + 2) ∧ S.2 (3 * k + 2) ≤ 20
theorem Inv.seen {σ : mM} {C : Ct} (h : Inv σ) (hn : σ 3 4 = (C.1 : Int)) : ∃ S, SeX σ S ∧ SeM σ S ∧ SeV C S := by
  obtain ⟨s1, s2, s3, s4⟩ := h.2.2.2.2.2.2.1
  refine ⟨((σ 31 1).toNat, σ 32), ⟨by show σ 31 1 = ((σ 31 1).toNat : Int); omega, fun k _ => rfl⟩, ⟨by rw [s1]; show σ 31 1 = ((σ 31 1).toNat : Int); omega, fun k hk => ?_⟩, by show (σ 31 1).toNat ≤ 16; omega, fun k hk => ?_⟩
  · have hk : k < 3 * (σ 31 1).toNat := hk
    exact s3 k (by omega)
  · have hk : k < (σ 31 1).toNat := hk
    have := s4 k (by omega)
    rw [hn] at this
    exact this
theorem SeX.cg {σ σ' : mM} {S : Sn} (h : SeX σ S) (e1 : σ' 31 1 = σ 31 1) (e2 : σ' 32 = σ 32) : SeX σ' S := by
  unfold SeX at *; rw [e1, e2]; exact h
theorem SeM.cg {σ σ' : mM} {S : Sn} (h : SeM σ S) (e1 : σ' 146 58 = σ 146 58) (e2 : σ' 189 = σ 189) : SeM σ' S := by
  unfold SeM at *; rw [e1, e2]; exact h
def ltE (S : Sn) (L : Nat) : Prop := L = 0 ∨ ∃ i, i < S.1 ∧ S.2 (3 * i) = (L : Int)
def airW (w : Sk) (p : Nat) (v : Int) : Sk := (w.1, fun j => if j = p then v else w.2.1 j, w.2.2.1, w.2.2.2.1, w.2.2.2.2)
theorem airW_V {C : Ct} {w : Sk} {p : Nat} {v : Int} (h : SkV C w) (hv : 0 ≤ v ∧ v ≤ 20) : SkV C (airW w p v) := by
  refine ⟨h.1, fun j hj => ?_⟩
  obtain ⟨a1, a2, a3, a4⟩ := h.2 j hj
  refine ⟨?_, a2, a3, a4⟩
  show 0 ≤ (if j = p then v else w.2.1 j) ∧ (if j = p then v else w.2.1 j) ≤ 20
  split
  · exact hv
  · exact a1
def allw (S : Sn) (u : Sk) (k m : Nat) : Prop := ∀ i, i < m → S.2 (3 * i) = (k : Int) → u.2.1 (S.2 (3 * i + 1)).toNat = S.2 (3 * i + 2)
def fitP (C : Ct) (w : Sk) (S : Sn) (p v : Nat) : Prop := ∀ i, i < S.1 → w.1 + S.2 (3 * i) ≤ 999 ∧ (ntM C (airW w p (v : Int)) (S.2 (3 * i)).toNat).2.1 (S.2 (3 * i + 1)).toNat = S.2 (3 * i + 2)
noncomputable def fitB (C : Ct) (w : Sk) (S : Sn) (p v : Nat) : Bool := @decide (fitP C w S p v) (Classical.propDecidable _)
theorem fitB_t {C : Ct} {w : Sk} {S : Sn} {p v : Nat} (h : fitP C w S p v) : fitB C w S p v = true := by
  unfold fitB; exact @decide_eq_true _ (Classical.propDecidable _) h
theorem fitB_f {C : Ct} {w : Sk} {S : Sn} {p v : Nat} (h : ¬fitP C w S p v) : fitB C w S p v = false := by
  unfold fitB; exact @decide_eq_false _ (Classical.propDecidable _) h
theorem bitsN_none {f : Nat → Bool} : ∀ n, (∀ v, v < n → f v = false) → bitsN f n = 0
  | 0, _ => rfl
  | n + 1, h => by rw [bitsN_no (h n (by omega))]; exact bitsN_none n (fun v hv => h v (by omega))
theorem bitsN_some {f : Nat → Bool} : ∀ n v, v < n → f v = true → bitsN f n ≠ 0
  | 0, v, h, _ => absurd h (by omega)
  | n + 1, v, h, hf => by
    rw [bitsN_s]
    by_cases e : v = n
    · subst e
      rw [if_pos hf]
      have : 0 < 2 ^ v := Nat.pow_pos (by decide)
      omega
    · have := bitsN_some n v (by omega) hf
      omega
def fitV (C : Ct) (w : Sk) (S : Sn) (a : Int) : Int → Prop := fun v => (0 ≤ a ∧ a < C.1 → v = ((bitsN (fitB C w S a.toNat) 21 : Nat) : Int)) ∧ (¬(0 ≤ a ∧ a < C.1) → v = -1)
theorem fitV_uniq {C : Ct} {w : Sk} {S : Sn} {a : Int} (u v : Int) (h : fitV C w S a u) (h2 : fitV C w S a v) : u = v := by
  by_cases e : 0 ≤ a ∧ a < C.1
  · rw [h.1 e, h2.1 e]
  · rw [h.2 e, h2.2 e]
section
variable {d : Nat} {σ σ0 : mM} {K : Option mV → mM → Prop} {C : Ct} {w : Sk} {l : Kp} {S : Sn}
theorem SkX.air {p : Nat} {v : Int} (h : SkX σ 34 C w) : SkX (mj_set σ 35 p v) 34 C (airW w p v) := by
  obtain ⟨h1, h2, h3, h4⟩ := h
  refine ⟨h1, h2, h3, fun j hj => ?_⟩
  obtain ⟨a1, a2, a3, a4⟩ := h4 j hj
  refine ⟨?_, a2, a3, a4⟩
  show mj_set σ 35 p v 35 j = (if j = p then v else w.2.1 j)
  rw [ms_app, if_pos rfl]
  by_cases e : j = p
  · rw [if_pos e, if_pos e]
  · rw [if_neg e, if_neg e]; exact a1
theorem x_latest (hF : Fix σ) (hS : SeX σ S) (hV : SeV C S) (hK : ∀ L : Nat, L ≤ 30 → (∀ i, i < S.1 → S.2 (3 * i) ≤ L) → ltE S L → K (some (.inl (L : Int))) σ) : Mt (d + 2) 74 [.inr (.inr 31)] σ K := by
  refine Mt.go (lv := [some (.inr (.inr 31)), none, none]) rfl rfl rfl ?_
  have v1 := hV.1
  refine At.blk rfl rfl rfl fun sx => ?_
  simp (decide := true) only [RR, ms_app, toList_some, toList_none, if_true, if_false, true_and, and_true, cond_true, sm0, sm1, sm1l, sm2, lc_lt, lc_gt, lc_eq, Int.toNat_natCast, Int.reduceToNat, Nat.reduceAdd, Nat.reduceEqDiff, Int.reduceLT, Int.reduceEq, Int.reduceNeg, Int.reduceAdd, Int.reduceMul, Nat.reduceMul, ms_n, ms_i, ms_l, ms_p, PX]
  have loop : ∀ m k : Nat, S.1 - k = m → k ≤ S.1 → ∀ L : Nat, L ≤ 30 → (∀ i, i < k → S.2 (3 * i) ≤ L) → ltE S L → At (d + 1) 74 1 [some (.inr (.inr 31)), some (.inl (L : Int)), some (.inl (k : Int))] [] σ K := by
    intro m
    induction m with
    | zero =>
      intro k hk hk2 L l1 l2 l3
      obtain rfl : k = S.1 := by omega
      refine At.blk rfl rfl rfl fun sx => ?_
      simp (decide := true) only [RR, ms_app, toList_some, toList_none, if_true, if_false, true_and, and_true, cond_true, sm0, sm1, sm1l, sm2, lc_lt, lc_gt, lc_eq, Int.toNat_natCast, Int.reduceToNat, Nat.reduceAdd, Nat.reduceEqDiff, Int.reduceLT, Int.reduceEq, Int.reduceNeg, Int.reduceAdd, Int.reduceMul, Nat.reduceMul, ms_n, ms_i, ms_l, ms_p, PX, fxX hF, hS.1]
      rw [if_neg (by omega)]
      refine At.blk rfl rfl rfl fun sx => ?_
      simp (decide := true) only [RR, ms_app, toList_some, toList_none, if_true, if_false, true_and, and_true, cond_true, sm0, sm1, sm1l, sm2, lc_lt, lc_gt, lc_eq, Int.toNat_natCast, Int.reduceToNat, Nat.reduceAdd, Nat.reduceEqDiff, Int.reduceLT, Int.reduceEq, Int.reduceNeg, Int.reduceAdd, Int.reduceMul, Nat.reduceMul, ms_n, ms_i, ms_l, ms_p, PX]
      exact hK L l1 l2 l3
    | succ m ih =>
      intro k hk hk2 L l1 l2 l3
      have hv := (hV.2 k (by omega)).1
      have w1 : Unit → w32 ((k : Int) + 1) = ((k + 1 : Nat) : Int) := fun _ => by rw [w32_small (by omega) (by omega)]; omega
      have w3 : Unit → w32 (3 * (k : Int)) = ((3 * k : Nat) : Int) := fun _ => by rw [w32_small (by omega) (by omega)]; omega
      refine At.blk rfl rfl rfl fun sx => ?_
      simp (decide := true) only [RR, ms_app, toList_some, toList_none, if_true, if_false, true_and, and_true, cond_true, sm0, sm1, sm1l, sm2, lc_lt, lc_gt, lc_eq, Int.toNat_natCast, Int.reduceToNat, Nat.reduceAdd, Nat.reduceEqDiff, Int.reduceLT, Int.reduceEq, Int.reduceNeg, Int.reduceAdd, Int.reduceMul, Nat.reduceMul, ms_n, ms_i, ms_l, ms_p, PX, fxX hF, hS.1, w3 (), hS.2 (3 * k) (by omega)]
      rw [if_pos (by omega)]
      refine ⟨⟨by omega, by omega⟩, ?_⟩
      refine cal_of rfl (x_imax (fun h => ?_) (fun h => ?_))
      · simp (decide := true) only [RR, ms_app, toList_some, toList_none, if_true, if_false, true_and, and_true, cond_true, sm0, sm1, sm1l, sm2, lc_lt, lc_gt, lc_eq, Int.toNat_natCast, Int.reduceToNat, Nat.reduceAdd, Nat.reduceEqDiff, Int.reduceLT, Int.reduceEq, Int.reduceNeg, Int.reduceAdd, Int.reduceMul, Nat.reduceMul, ms_n, ms_i, ms_l, ms_p, PX, w1 ()]
        refine ih (k + 1) (by omega) (by omega) L l1 (fun i hi => ?_) l3
        by_cases e : i = k
        · rw [e]; exact h
        · exact l2 i (by omega)
      · simp (decide := true) only [RR, ms_app, toList_some, toList_none, if_true, if_false, true_and, and_true, cond_true, sm0, sm1, sm1l, sm2, lc_lt, lc_gt, lc_eq, Int.toNat_natCast, Int.reduceToNat, Nat.reduceAdd, Nat.reduceEqDiff, Int.reduceLT, Int.reduceEq, Int.reduceNeg, Int.reduceAdd, Int.reduceMul, Nat.reduceMul, ms_n, ms_i, ms_l, ms_p, PX, w1 ()]
        have e0 : S.2 (3 * k) = (((S.2 (3 * k)).toNat : Nat) : Int) := by omega
        rw [e0]
        refine ih (k + 1) (by omega) (by omega) _ (by omega) (fun i hi => ?_) (Or.inr ⟨k, by omega, e0⟩)
        by_cases e : i = k
        · rw [e]; omega
        · have := l2 i (by omega); omega
  exact loop S.1 0 rfl (by omega) 0 (by decide) (fun i hi => absurd hi (by omega)) (Or.inl rfl)
theorem x_allows {u : Sk} {k : Nat} (hk : k ≤ 30) (hF : Fix σ) (hC : CtV C) (hS : SeX σ S) (hV : SeV C S) (hs : SkX σ 34 C u) (h1 : allw S u k S.1 → K (some (.inl 1)) σ) (h0 : ¬allw S u k S.1 → K (some (.inl 0)) σ) : Mt (d + 1) 75 [.inr (.inr 31), .inl (k : Int), .inr (.inr 34)] σ K := by
  refine Mt.go (lv := [some (.inr (.inr 31)), some (.inl (k : Int)), some (.inr (.inr 34)), none]) rfl rfl rfl ?_
  have v1 := hV.1
  have n7 := hC.1
  refine At.blk rfl rfl rfl fun sx => ?_
  simp (decide := true) only [RR, ms_app, toList_some, toList_none, if_true, if_false, true_and, and_true, cond_true, sm0, sm1, sm1l, sm2, lc_lt, lc_gt, lc_eq, Int.toNat_natCast, Int.reduceToNat, Nat.reduceAdd, Nat.reduceEqDiff, Int.reduceLT, Int.reduceEq, Int.reduceNeg, Int.reduceAdd, Int.reduceMul, Nat.reduceMul, ms_n, ms_i, ms_l, ms_p, PX]
  have loop : ∀ m i : Nat, S.1 - i = m → i ≤ S.1 → allw S u k i → At d 75 1 [some (.inr (.inr 31)), some (.inl (k : Int)), some (.inr (.inr 34)), some (.inl (i : Int))] [] σ K := by
    intro m
    induction m with
    | zero =>
      intro i hi hi2 ha
      obtain rfl : i = S.1 := by omega
      refine At.blk rfl rfl rfl fun sx => ?_
      simp (decide := true) only [RR, ms_app, toList_some, toList_none, if_true, if_false, true_and, and_true, cond_true, sm0, sm1, sm1l, sm2, lc_lt, lc_gt, lc_eq, Int.toNat_natCast, Int.reduceToNat, Nat.reduceAdd, Nat.reduceEqDiff, Int.reduceLT, Int.reduceEq, Int.reduceNeg, Int.reduceAdd, Int.reduceMul, Nat.reduceMul, ms_n, ms_i, ms_l, ms_p, PX, fxX hF, hS.1]
      rw [if_neg (by omega)]
      refine At.blk rfl rfl rfl fun sx => ?_
      simp (decide := true) only [RR, ms_app, toList_some, toList_none, if_true, if_false, true_and, and_true, cond_true, sm0, sm1, sm1l, sm2, lc_lt, lc_gt, lc_eq, Int.toNat_natCast, Int.reduceToNat, Nat.reduceAdd, Nat.reduceEqDiff, Int.reduceLT, Int.reduceEq, Int.reduceNeg, Int.reduceAdd, Int.reduceMul, Nat.reduceMul, ms_n, ms_i, ms_l, ms_p, PX]
      exact h1 ha
    | succ m ih =>
      intro i hi hi2 ha
      have hv := hV.2 i (by omega)
      have w1 : Unit → w32 ((i : Int) + 1) = ((i + 1 : Nat) : Int) := fun _ => by rw [w32_small (by omega) (by omega)]; omega
      have w3 : Unit → w32 (3 * (i : Int)) = ((3 * i : Nat) : Int) := fun _ => by rw [w32_small (by omega) (by omega)]; omega
      have w4 : Unit → w32 (((3 * i : Nat) : Int) + 1) = ((3 * i + 1 : Nat) : Int) := fun _ => by rw [w32_small (by omega) (by omega)]; omega
      have w5 : Unit → w32 (((3 * i : Nat) : Int) + 2) = ((3 * i + 2 : Nat) : Int) := fun _ => by rw [w32_small (by omega) (by omega)]; omega
      have two : allw S u k (i + 1) → At d 75 2 [some (.inr (.inr 31)), some (.inl (k : Int)), some (.inr (.inr 34)), some (.inl (i : Int))] [] σ K := by
        intro h
        refine At.blk rfl rfl rfl fun sx => ?_
        simp (decide := true) only [RR, ms_app, toList_some, toList_none, if_true, if_false, true_and, and_true, cond_true, sm0, sm1, sm1l, sm2, lc_lt, lc_gt, lc_eq, Int.toNat_natCast, Int.reduceToNat, Nat.reduceAdd, Nat.reduceEqDiff, Int.reduceLT, Int.reduceEq, Int.reduceNeg, Int.reduceAdd, Int.reduceMul, Nat.reduceMul, ms_n, ms_i, ms_l, ms_p, PX, w1 ()]
        exact ih (i + 1) (by omega) (by omega) h
      have ea : σ 35 (S.2 (3 * i + 1)).toNat = u.2.1 (S.2 (3 * i + 1)).toNat := (hs.2.2.2 _ (by omega)).1
      refine At.blk rfl rfl rfl fun sx => ?_
      simp (decide := true) only [RR, ms_app, toList_some, toList_none, if_true, if_false, true_and, and_true, cond_true, sm0, sm1, sm1l, sm2, lc_lt, lc_gt, lc_eq, Int.toNat_natCast, Int.reduceToNat, Nat.reduceAdd, Nat.reduceEqDiff, Int.reduceLT, Int.reduceEq, Int.reduceNeg, Int.reduceAdd, Int.reduceMul, Nat.reduceMul, ms_n, ms_i, ms_l, ms_p, PX, fxX hF, hS.1, w3 (), w4 (), w5 (), hS.2 (3 * i) (by omega), hS.2 (3 * i + 1) (by omega), hS.2 (3 * i + 2) (by omega), ea]
      rw [if_pos (by omega)]
      refine ⟨⟨by omega, by omega⟩, ?_⟩
      by_cases e1 : S.2 (3 * i) = (k : Int)
      · rw [if_pos e1]
        refine ⟨⟨by omega, by omega⟩, ⟨by omega, by omega⟩, ⟨by omega, by omega⟩, ?_⟩
        by_cases e2 : u.2.1 (S.2 (3 * i + 1)).toNat = S.2 (3 * i + 2)
        · rw [if_pos e2]
          refine two (fun j hj => ?_)
          by_cases e : j = i
          · rw [e]; exact fun _ => e2
          · exact ha j (by omega)
        · rw [if_neg e2]
          first | exact h0 (fun h => e2 (h i (by omega) e1)) | exact ⟨Or.inl rfl, h0 (fun h => e2 (h i (by omega) e1))⟩
      · rw [if_neg e1]
        refine two (fun j hj => ?_)
        by_cases e : j = i
        · rw [e]; exact fun h => absurd h e1
        · exact ha j (by omega)
  exact loop S.1 0 rfl (by omega) (fun j hj => absurd hj (by omega))
theorem x_fitsSeen {p v L : Nat} (hF : Fix σ) (hC : CtV C) (hp : p < C.1) (hv : v ≤ 20) (hcx : CtX σ C) (hw : SkV C w) (hsx : SkX σ 28 C w) (hS : SeX σ S) (hV : SeV C S) (hL : L ≤ 30) (h9 : w.1 + L ≤ 999) (l2 : ∀ i, i < S.1 → S.2 (3 * i) ≤ L) (hK : ∀ σ', Fr xrL xrT σ σ' → K (some (.inl (if fitB C w S p v = true then 1 else 0))) σ') : Mt (d + 5) 29 [.inr (.inr 33), .inl (p : Int), .inl (v : Int), .inl (L : Int)] σ K := by
  refine Mt.go (lv := [some (.inr (.inr 33)), some (.inl (p : Int)), some (.inl (v : Int)), some (.inl (L : Int)), none]) rfl rfl rfl ?_
  have n7 := hC.1
  refine At.blk rfl rfl rfl fun sx => ?_
  simp (decide := true) only [RR, ms_app, toList_some, toList_none, if_true, if_false, true_and, and_true, cond_true, sm0, sm1, sm1l, sm2, lc_lt, lc_gt, lc_eq, Int.toNat_natCast, Int.reduceToNat, Nat.reduceAdd, Nat.reduceEqDiff, Int.reduceLT, Int.reduceEq, Int.reduceNeg, Int.reduceAdd, Int.reduceMul, Nat.reduceMul, ms_n, ms_i, ms_l, ms_p, PX, fxX hF]
  refine cal_of rfl (x_skyCopy hF rfl rfl (by omega) ?_)
  have f0 : Fr xrL xrT σ (skyC σ 34 28) := Fr.copy.mono rfl
  have hF0 := hF.fr f0 rfl
  have s0 := (hsx.copy n7).air (p := p) (v := (v : Int))
  generalize skyC σ 34 28 = σ1 at *
  simp (decide := true) only [RR, ms_app, toList_some, toList_none, if_true, if_false, true_and, and_true, cond_true, sm0, sm1, sm1l, sm2, lc_lt, lc_gt, lc_eq, Int.toNat_natCast, Int.reduceToNat, Nat.reduceAdd, Nat.reduceEqDiff, Int.reduceLT, Int.reduceEq, Int.reduceNeg, Int.reduceAdd, Int.reduceMul, Nat.reduceMul, ms_n, ms_i, ms_l, ms_p, PX, fxX hF0]
  refine ⟨⟨by omega, by omega⟩, ?_⟩
  have hwu : SkV C (airW w p (v : Int)) := airW_V hw (by omega)
  have bad : ∀ k : Nat, k ≤ L → ¬allw S (ntM C (airW w p (v : Int)) k) k S.1 → ∀ σ', Fr xrL xrT σ σ' → K (some (.inl 0)) σ' := by
    intro k hk hno σ' fr
    have : fitB C w S p v = false := fitB_f (fun h => hno (fun i hi he => by
      have := (h i hi).2
      rw [he, Int.toNat_natCast] at this
      exact this))
    have hK := hK σ' fr
    rw [this] at hK
    exact hK
  have loop : ∀ m k : Nat, L - k = m → k ≤ L → ∀ σ', Fr xrL xrT σ σ' → SkX σ' 34 C (ntM C (airW w p (v : Int)) k) → (∀ j, j < k → allw S (ntM C (airW w p (v : Int)) j) j S.1) → At (d + 4) 29 1 [some (.inr (.inr 33)), some (.inl (p : Int)), some (.inl (v : Int)), some (.inl (L : Int)), some (.inl (k : Int))] [] σ' K := by
    intro m
    induction m with
    | zero =>
      intro k hk hk2 σ' fr sk ha
      obtain rfl : k = L := by omega
      have hF' := hF.fr fr rfl
      refine At.blk rfl rfl rfl fun sx => ?_
      simp (decide := true) only [RR, ms_app, toList_some, toList_none, if_true, if_false, true_and, and_true, cond_true, sm0, sm1, sm1l, sm2, lc_lt, lc_gt, lc_eq, Int.toNat_natCast, Int.reduceToNat, Nat.reduceAdd, Nat.reduceEqDiff, Int.reduceLT, Int.reduceEq, Int.reduceNeg, Int.reduceAdd, Int.reduceMul, Nat.reduceMul, ms_n, ms_i, ms_l, ms_p, PX]
      rw [if_neg (by omega)]
      refine At.blk rfl rfl rfl fun sx => ?_
      simp (decide := true) only [RR, ms_app, toList_some, toList_none, if_true, if_false, true_and, and_true, cond_true, sm0, sm1, sm1l, sm2, lc_lt, lc_gt, lc_eq, Int.toNat_natCast, Int.reduceToNat, Nat.reduceAdd, Nat.reduceEqDiff, Int.reduceLT, Int.reduceEq, Int.reduceNeg, Int.reduceAdd, Int.reduceMul, Nat.reduceMul, ms_n, ms_i, ms_l, ms_p, PX, fxX hF']
      refine cal_of rfl (x_allows hL hF' hC (hS.cg (fr 31 1 rfl) (fr.row 32 rfl)) hV sk (fun h => ?_) (fun h => ?_))
      · simp (decide := true) only [RR, ms_app, toList_some, toList_none, if_true, if_false, true_and, and_true, cond_true, sm0, sm1, sm1l, sm2, lc_lt, lc_gt, lc_eq, Int.toNat_natCast, Int.reduceToNat, Nat.reduceAdd, Nat.reduceEqDiff, Int.reduceLT, Int.reduceEq, Int.reduceNeg, Int.reduceAdd, Int.reduceMul, Nat.reduceMul, ms_n, ms_i, ms_l, ms_p, PX]
        have : fitB C w S p v = true := fitB_t (fun i hi => by
          have hi2 := l2 i hi
          have hi3 := (hV.2 i hi).1
          refine ⟨by omega, ?_⟩
          have e0 : S.2 (3 * i) = (((S.2 (3 * i)).toNat : Nat) : Int) := by omega
          by_cases e : (S.2 (3 * i)).toNat = k
          · rw [e]; exact h i hi (by omega)
          · exact ha (S.2 (3 * i)).toNat (by omega) i hi e0)
        have hK := hK σ' fr
        rw [this] at hK
        first | exact hK | exact ⟨Or.inr rfl, hK⟩
      · simp (decide := true) only [RR, ms_app, toList_some, toList_none, if_true, if_false, true_and, and_true, cond_true, sm0, sm1, sm1l, sm2, lc_lt, lc_gt, lc_eq, Int.toNat_natCast, Int.reduceToNat, Nat.reduceAdd, Nat.reduceEqDiff, Int.reduceLT, Int.reduceEq, Int.reduceNeg, Int.reduceAdd, Int.reduceMul, Nat.reduceMul, ms_n, ms_i, ms_l, ms_p, PX]
        first | exact bad k (Nat.le_refl _) h σ' fr | exact ⟨Or.inl rfl, bad k (Nat.le_refl _) h σ' fr⟩
    | succ m ih =>
      intro k hk hk2 σ' fr sk ha
      have hF' := hF.fr fr rfl
      have c8 := hcx.xr fr
      have wn : (ntM C (airW w p (v : Int)) k).1 = w.1 + k := ntM_night (C := C) (w := airW w p (v : Int)) k
      have hwk := ntM_V hwu k (by show w.1 + (k : Int) ≤ 5000; omega)
      have w1 : Unit → w32 ((k : Int) + 1) = ((k + 1 : Nat) : Int) := fun _ => by rw [w32_small (by omega) (by omega)]; omega
      refine At.blk rfl rfl rfl fun sx => ?_
      simp (decide := true) only [RR, ms_app, toList_some, toList_none, if_true, if_false, true_and, and_true, cond_true, sm0, sm1, sm1l, sm2, lc_lt, lc_gt, lc_eq, Int.toNat_natCast, Int.reduceToNat, Nat.reduceAdd, Nat.reduceEqDiff, Int.reduceLT, Int.reduceEq, Int.reduceNeg, Int.reduceAdd, Int.reduceMul, Nat.reduceMul, ms_n, ms_i, ms_l, ms_p, PX, fxX hF']
      rw [if_pos (by omega)]
      refine cal_of rfl (x_allows (by omega) hF' hC (hS.cg (fr 31 1 rfl) (fr.row 32 rfl)) hV sk (fun h => ?_) (fun h => ?_))
      · simp (decide := true) only [RR, ms_app, toList_some, toList_none, if_true, if_false, true_and, and_true, cond_true, sm0, sm1, sm1l, sm2, lc_lt, lc_gt, lc_eq, Int.toNat_natCast, Int.reduceToNat, Nat.reduceAdd, Nat.reduceEqDiff, Int.reduceLT, Int.reduceEq, Int.reduceNeg, Int.reduceAdd, Int.reduceMul, Nat.reduceMul, ms_n, ms_i, ms_l, ms_p, PX]
        refine At.blk rfl rfl rfl fun sx => ?_
        simp (decide := true) only [RR, ms_app, toList_some, toList_none, if_true, if_false, true_and, and_true, cond_true, sm0, sm1, sm1l, sm2, lc_lt, lc_gt, lc_eq, Int.toNat_natCast, Int.reduceToNat, Nat.reduceAdd, Nat.reduceEqDiff, Int.reduceLT, Int.reduceEq, Int.reduceNeg, Int.reduceAdd, Int.reduceMul, Nat.reduceMul, ms_n, ms_i, ms_l, ms_p, PX, fxX hF']
        refine cal_of rfl (x_foresee34 hF' hC hwk c8 sk (fun σ2 f2 hE h2 => ?_))
        have hF2 := hF'.fr f2 rfl
        simp (decide := true) only [RR, ms_app, toList_some, toList_none, if_true, if_false, true_and, and_true, cond_true, sm0, sm1, sm1l, sm2, lc_lt, lc_gt, lc_eq, Int.toNat_natCast, Int.reduceToNat, Nat.reduceAdd, Nat.reduceEqDiff, Int.reduceLT, Int.reduceEq, Int.reduceNeg, Int.reduceAdd, Int.reduceMul, Nat.reduceMul, ms_n, ms_i, ms_l, ms_p, PX, fxX hF2]
        refine cal_of rfl (x_pass34 hF2 hC hwk (c8.xw f2) (sk.xw34 f2) (fun p hp => (h2 p hp).2.2) (fun σ3 f3 s3 => ?_))
        rw [nxC_eq (by omega)] at s3
        simp (decide := true) only [RR, ms_app, toList_some, toList_none, if_true, if_false, true_and, and_true, cond_true, sm0, sm1, sm1l, sm2, lc_lt, lc_gt, lc_eq, Int.toNat_natCast, Int.reduceToNat, Nat.reduceAdd, Nat.reduceEqDiff, Int.reduceLT, Int.reduceEq, Int.reduceNeg, Int.reduceAdd, Int.reduceMul, Nat.reduceMul, ms_n, ms_i, ms_l, ms_p, PX, w1 ()]
        refine ih (k + 1) (by omega) (by omega) σ3 ((fr.trans (f2.mono rfl)).trans (f3.mono rfl)) s3 (fun j hj => ?_)
        by_cases e : j = k
        · rw [e]; exact h
        · exact ha j (by omega)
      · simp (decide := true) only [RR, ms_app, toList_some, toList_none, if_true, if_false, true_and, and_true, cond_true, sm0, sm1, sm1l, sm2, lc_lt, lc_gt, lc_eq, Int.toNat_natCast, Int.reduceToNat, Nat.reduceAdd, Nat.reduceEqDiff, Int.reduceLT, Int.reduceEq, Int.reduceNeg, Int.reduceAdd, Int.reduceMul, Nat.reduceMul, ms_n, ms_i, ms_l, ms_p, PX]
        first | exact bad k (by omega) h σ' fr | exact ⟨Or.inl rfl, bad k (by omega) h σ' fr⟩
  exact loop L 0 rfl (by omega) _ (f0.setr rfl) s0 (fun j hj => absurd hj (by omega))
theorem x_fitting {p : Nat} (hF : Fix σ) (hC : CtV C) (hp : p < C.1) (hcx : CtX σ C) (hw : SkV C w) (hsx : SkX σ 28 C w) (hS : SeX σ S) (hV : SeV C S) (h9 : 0 ≤ w.1 ∧ w.1 ≤ 999) (hK : ∀ σ', Fr xrL xrT σ σ' → K (some (.inl ((bitsN (fitB C w S p) 21 : Nat) : Int))) σ') : Mt (d + 6) 28 [.inr (.inr 33), .inl (p : Int)] σ K := by
  refine Mt.go (lv := [some (.inr (.inr 33)), some (.inl (p : Int)), none, none, none]) rfl rfl rfl ?_
  have n7 := hC.1
  have en : σ 28 2 = w.1 := hsx.1
  refine At.blk rfl rfl rfl fun sx => ?_
  simp (decide := true) only [RR, ms_app, toList_some, toList_none, if_true, if_false, true_and, and_true, cond_true, sm0, sm1, sm1l, sm2, lc_lt, lc_gt, lc_eq, Int.toNat_natCast, Int.reduceToNat, Nat.reduceAdd, Nat.reduceEqDiff, Int.reduceLT, Int.reduceEq, Int.reduceNeg, Int.reduceAdd, Int.reduceMul, Nat.reduceMul, ms_n, ms_i, ms_l, ms_p, PX, fxX hF]
  refine cal_of rfl (x_latest hF hS hV (fun L l1 l2 l3 => ?_))
  simp (decide := true) only [RR, ms_app, toList_some, toList_none, if_true, if_false, true_and, and_true, cond_true, sm0, sm1, sm1l, sm2, lc_lt, lc_gt, lc_eq, Int.toNat_natCast, Int.reduceToNat, Nat.reduceAdd, Nat.reduceEqDiff, Int.reduceLT, Int.reduceEq, Int.reduceNeg, Int.reduceAdd, Int.reduceMul, Nat.reduceMul, ms_n, ms_i, ms_l, ms_p, PX, fxX hF, en]
  rw [w32_small (by omega) (by omega)]
  by_cases g : 999 < w.1 + (L : Int)
  · rw [if_pos g]
    have : bitsN (fitB C w S p) 21 = 0 := bitsN_none 21 (fun v _ => fitB_f (fun h => by
      rcases l3 with l3 | ⟨i, i1, i2⟩
      · omega
      · have := (h i i1).1; omega))
    rw [this] at hK
    exact hK σ Fr.same
  · rw [if_neg g]
    refine At.blk rfl rfl rfl fun sx => ?_
    simp (decide := true) only [RR, ms_app, toList_some, toList_none, if_true, if_false, true_and, and_true, cond_true, sm0, sm1, sm1l, sm2, lc_lt, lc_gt, lc_eq, Int.toNat_natCast, Int.reduceToNat, Nat.reduceAdd, Nat.reduceEqDiff, Int.reduceLT, Int.reduceEq, Int.reduceNeg, Int.reduceAdd, Int.reduceMul, Nat.reduceMul, ms_n, ms_i, ms_l, ms_p, PX]
    have loop : ∀ m k : Nat, 21 - k = m → k ≤ 21 → ∀ σ', Fr xrL xrT σ σ' → At (d + 5) 28 2 [some (.inr (.inr 33)), some (.inl (p : Int)), some (.inl (L : Int)), some (.inl ((bitsN (fitB C w S p) k : Nat) : Int)), some (.inl (k : Int))] [] σ' K := by
      intro m
      induction m with
      | zero =>
        intro k hk hk2 σ' fr
        obtain rfl : k = 21 := by omega
        refine At.blk rfl rfl rfl fun sx => ?_
        simp (decide := true) only [RR, ms_app, toList_some, toList_none, if_true, if_false, true_and, and_true, cond_true, sm0, sm1, sm1l, sm2, lc_lt, lc_gt, lc_eq, Int.toNat_natCast, Int.reduceToNat, Nat.reduceAdd, Nat.reduceEqDiff, Int.reduceLT, Int.reduceEq, Int.reduceNeg, Int.reduceAdd, Int.reduceMul, Nat.reduceMul, ms_n, ms_i, ms_l, ms_p, PX]
        refine At.blk rfl rfl rfl fun sx => ?_
        simp (decide := true) only [RR, ms_app, toList_some, toList_none, if_true, if_false, true_and, and_true, cond_true, sm0, sm1, sm1l, sm2, lc_lt, lc_gt, lc_eq, Int.toNat_natCast, Int.reduceToNat, Nat.reduceAdd, Nat.reduceEqDiff, Int.reduceLT, Int.reduceEq, Int.reduceNeg, Int.reduceAdd, Int.reduceMul, Nat.reduceMul, ms_n, ms_i, ms_l, ms_p, PX]
        exact hK σ' fr
      | succ m ih =>
        intro k hk hk2 σ' fr
        have hF' := hF.fr fr rfl
        have w1 : Unit → w32 ((k : Int) + 1) = ((k + 1 : Nat) : Int) := fun _ => by rw [w32_small (by omega) (by omega)]; omega
        refine At.blk rfl rfl rfl fun sx => ?_
        simp (decide := true) only [RR, ms_app, toList_some, toList_none, if_true, if_false, true_and, and_true, cond_true, sm0, sm1, sm1l, sm2, lc_lt, lc_gt, lc_eq, Int.toNat_natCast, Int.reduceToNat, Nat.reduceAdd, Nat.reduceEqDiff, Int.reduceLT, Int.reduceEq, Int.reduceNeg, Int.reduceAdd, Int.reduceMul, Nat.reduceMul, ms_n, ms_i, ms_l, ms_p, PX]
        rw [if_neg (by omega)]
        refine cal_of rfl (x_fitsSeen hF' hC hp (by omega) (hcx.xr fr) hw (hsx.xr fr) (hS.cg (fr 31 1 rfl) (fr.row 32 rfl)) hV l1 (by omega) l2 (fun σ2 f2 => ?_))
        by_cases ht : fitB C w S p k = true
        · rw [if_pos ht]
          simp (decide := true) only [RR, ms_app, toList_some, toList_none, if_true, if_false, true_and, and_true, cond_true, sm0, sm1, sm1l, sm2, lc_lt, lc_gt, lc_eq, Int.toNat_natCast, Int.reduceToNat, Nat.reduceAdd, Nat.reduceEqDiff, Int.reduceLT, Int.reduceEq, Int.reduceNeg, Int.reduceAdd, Int.reduceMul, Nat.reduceMul, ms_n, ms_i, ms_l, ms_p, PX]
          rw [bitsN_or (by omega) ht]
          refine At.blk rfl rfl rfl fun sx => ?_
          simp (decide := true) only [RR, ms_app, toList_some, toList_none, if_true, if_false, true_and, and_true, cond_true, sm0, sm1, sm1l, sm2, lc_lt, lc_gt, lc_eq, Int.toNat_natCast, Int.reduceToNat, Nat.reduceAdd, Nat.reduceEqDiff, Int.reduceLT, Int.reduceEq, Int.reduceNeg, Int.reduceAdd, Int.reduceMul, Nat.reduceMul, ms_n, ms_i, ms_l, ms_p, PX, w1 ()]
          exact ih (k + 1) (by omega) (by omega) σ2 (fr.trans f2)
        · rw [if_neg ht]
          simp (decide := true) only [RR, ms_app, toList_some, toList_none, if_true, if_false, true_and, and_true, cond_true, sm0, sm1, sm1l, sm2, lc_lt, lc_gt, lc_eq, Int.toNat_natCast, Int.reduceToNat, Nat.reduceAdd, Nat.reduceEqDiff, Int.reduceLT, Int.reduceEq, Int.reduceNeg, Int.reduceAdd, Int.reduceMul, Nat.reduceMul, ms_n, ms_i, ms_l, ms_p, PX]
          rw [← bitsN_no (by simpa using ht)]
          refine At.blk rfl rfl rfl fun sx => ?_
          simp (decide := true) only [RR, ms_app, toList_some, toList_none, if_true, if_false, true_and, and_true, cond_true, sm0, sm1, sm1l, sm2, lc_lt, lc_gt, lc_eq, Int.toNat_natCast, Int.reduceToNat, Nat.reduceAdd, Nat.reduceEqDiff, Int.reduceLT, Int.reduceEq, Int.reduceNeg, Int.reduceAdd, Int.reduceMul, Nat.reduceMul, ms_n, ms_i, ms_l, ms_p, PX, w1 ()]
          exact ih (k + 1) (by omega) (by omega) σ2 (fr.trans f2)
    exact loop 21 0 rfl (by omega) σ Fr.same
theorem x_fits {a : Int} (hF : Fix σ) (hW : Wrl σ C w l) (hS : SeX σ S) (hV : SeV C S) (hK : ∀ σ' v, Fr xrL xrT σ σ' → fitV C w S a v → K (some (.inl v)) σ') : Mt (d + 7) 123 [.inr (.inr 0), .inl a] σ K := by
  refine Mt.go (lv := [some (.inr (.inr 0)), some (.inl a)]) rfl rfl rfl ?_
  obtain ⟨hC, hcx, hcm, hw, hsx, hsm, hkx, hkm, hkv, h9⟩ := hW
  refine At.blk rfl rfl rfl fun sx => ?_
  simp (decide := true) only [RR, ms_app, toList_some, toList_none, if_true, if_false, true_and, and_true, cond_true, sm0, sm1, sm1l, sm2, lc_lt, lc_gt, lc_eq, Int.toNat_natCast, Int.reduceToNat, Nat.reduceAdd, Nat.reduceEqDiff, Int.reduceLT, Int.reduceEq, Int.reduceNeg, Int.reduceAdd, Int.reduceMul, Nat.reduceMul, ms_n, ms_i, ms_l, ms_p, PX, fxX hF]
  refine cal_of rfl (x_holds3 (fun hh => ?_) (fun hh => ?_))
  · rw [hcx.1] at hh
    obtain ⟨p, rfl⟩ := Int.eq_ofNat_of_zero_le hh.1
    simp (decide := true) only [RR, ms_app, toList_some, toList_none, if_true, if_false, true_and, and_true, cond_true, sm0, sm1, sm1l, sm2, lc_lt, lc_gt, lc_eq, Int.toNat_natCast, Int.reduceToNat, Nat.reduceAdd, Nat.reduceEqDiff, Int.reduceLT, Int.reduceEq, Int.reduceNeg, Int.reduceAdd, Int.reduceMul, Nat.reduceMul, ms_n, ms_i, ms_l, ms_p, PX, fxX hF]
    refine cal_of rfl (x_fitting hF hC (by omega) hcx hw hsx hS hV h9 (fun σ1 f1 => ?_))
    simp (decide := true) only [RR, ms_app, toList_some, toList_none, if_true, if_false, true_and, and_true, cond_true, sm0, sm1, sm1l, sm2, lc_lt, lc_gt, lc_eq, Int.toNat_natCast, Int.reduceToNat, Nat.reduceAdd, Nat.reduceEqDiff, Int.reduceLT, Int.reduceEq, Int.reduceNeg, Int.reduceAdd, Int.reduceMul, Nat.reduceMul, ms_n, ms_i, ms_l, ms_p, PX]
    refine At.blk rfl rfl rfl fun sx => ?_
    simp (decide := true) only [RR, ms_app, toList_some, toList_none, if_true, if_false, true_and, and_true, cond_true, sm0, sm1, sm1l, sm2, lc_lt, lc_gt, lc_eq, Int.toNat_natCast, Int.reduceToNat, Nat.reduceAdd, Nat.reduceEqDiff, Int.reduceLT, Int.reduceEq, Int.reduceNeg, Int.reduceAdd, Int.reduceMul, Nat.reduceMul, ms_n, ms_i, ms_l, ms_p, PX]
    exact hK σ1 _ f1 ⟨fun _ => by rw [Int.toNat_natCast], fun h => absurd hh h⟩
  · rw [hcx.1] at hh
    simp (decide := true) only [RR, ms_app, toList_some, toList_none, if_true, if_false, true_and, and_true, cond_true, sm0, sm1, sm1l, sm2, lc_lt, lc_gt, lc_eq, Int.toNat_natCast, Int.reduceToNat, Nat.reduceAdd, Nat.reduceEqDiff, Int.reduceLT, Int.reduceEq, Int.reduceNeg, Int.reduceAdd, Int.reduceMul, Nat.reduceMul, ms_n, ms_i, ms_l, ms_p, PX]
    refine At.blk rfl rfl rfl fun sx => ?_
    simp (decide := true) only [RR, ms_app, toList_some, toList_none, if_true, if_false, true_and, and_true, cond_true, sm0, sm1, sm1l, sm2, lc_lt, lc_gt, lc_eq, Int.toNat_natCast, Int.reduceToNat, Nat.reduceAdd, Nat.reduceEqDiff, Int.reduceLT, Int.reduceEq, Int.reduceNeg, Int.reduceAdd, Int.reduceMul, Nat.reduceMul, ms_n, ms_i, ms_l, ms_p, PX]
    refine At.blk rfl rfl rfl fun sx => ?_
    simp (decide := true) only [RR, ms_app, toList_some, toList_none, if_true, if_false, true_and, and_true, cond_true, sm0, sm1, sm1l, sm2, lc_lt, lc_gt, lc_eq, Int.toNat_natCast, Int.reduceToNat, Nat.reduceAdd, Nat.reduceEqDiff, Int.reduceLT, Int.reduceEq, Int.reduceNeg, Int.reduceAdd, Int.reduceMul, Nat.reduceMul, ms_n, ms_i, ms_l, ms_p, PX]
    exact hK σ _ Fr.same ⟨fun h => absurd h hh, fun _ => rfl⟩
end
