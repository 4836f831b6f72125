/-! A TEXT: N bytes t. Blanks, letters, digits; runs of them; words -/
def blk (c : Int) : Prop := c = 10 ∨ c = 32
def ltr (c : Int) : Prop := 97 ≤ c ∧ c ≤ 122
def dgt (c : Int) : Prop := 48 ≤ c ∧ c ≤ 57
def Skp (N : Nat) (t : Nat → Int) (i s : Nat) : Prop := i ≤ s ∧ s ≤ N ∧ (∀ k, i ≤ k → k < s → blk (t k)) ∧ (s < N → ¬blk (t s))
def RunP (P : Int → Prop) (N : Nat) (t : Nat → Int) (s e : Nat) : Prop := s ≤ e ∧ e ≤ N ∧ (∀ k, s ≤ k → k < e → P (t k)) ∧ (e < N → ¬P (t e))
theorem Skp.uniq {N : Nat} {t : Nat → Int} {i a b : Nat} (h : Skp N t i a) (h2 : Skp N t i b) : a = b := by
  obtain ⟨a1, a2, a3, a4⟩ := h
  obtain ⟨b1, b2, b3, b4⟩ := h2
  rcases Nat.lt_trichotomy a b with e | e | e
  · exact absurd (b3 a a1 e) (a4 (by omega))
  · exact e
  · exact absurd (a3 b b1 e) (b4 (by omega))
theorem RunP.uniq {P : Int → Prop} {N : Nat} {t : Nat → Int} {i a b : Nat} (h : RunP P N t i a) (h2 : RunP P N t i b) : a = b := by
  obtain ⟨a1, a2, a3, a4⟩ := h
  obtain ⟨b1, b2, b3, b4⟩ := h2
  rcases Nat.lt_trichotomy a b with e | e | e
  · exact absurd (b3 a a1 e) (a4 (by omega))
  · exact e
  · exact absurd (a3 b b1 e) (b4 (by omega))
theorem Skp.at {N : Nat} {t : Nat → Int} {i s : Nat} (h : Skp N t i s) : Skp N t s s := ⟨Nat.le_refl _, h.2.1, fun k h1 h2 => absurd h2 (by omega), h.2.2.2⟩
def wch (w k : Nat) : Int := ((mj_txt.getD (6 * w + k) 0 : Nat) : Int)
def wl (w : Nat) : Nat := ((List.range 6).filter (fun k => !(Nat.beq (mj_txt.getD (6 * w + k) 0) 32))).length
theorem wl_tab : ∀ w : Nat, w < 27 → (1 ≤ wl w ∧ wl w ≤ 6) ∧ ∀ k : Nat, k < 6 → (wch w k = 32 ↔ wl w ≤ k) := by decide +kernel
theorem wd_tab : ∀ w : Nat, w < 27 → ∀ v : Nat, v < 27 → w ≠ v → wl w = wl v → ∃ k, k < wl w ∧ wch w k ≠ wch v k := by decide +kernel
def isW (t : Nat → Int) (s e w : Nat) : Prop := e = s + wl w ∧ ∀ k, k < wl w → t (s + k) = wch w k
theorem isW.uniq {t : Nat → Int} {s e w v : Nat} (h : isW t s e w) (h2 : isW t s e v) (hw : w < 27) (hv : v < 27) : w = v := by
  rcases Nat.decEq w v with n | e
  · have hl : wl w = wl v := by have := h.1; have := h2.1; omega
    obtain ⟨k, k1, k2⟩ := wd_tab w hw v hv n hl
    exact absurd ((h.2 k k1).symm.trans (h2.2 k (by omega))) k2
  · exact e
def WdR (t : Nat → Int) (s e : Nat) (v : Int) : Prop := (v = -1 ∧ ∀ w : Nat, w < 27 → ¬isW t s e w) ∨ ∃ w : Nat, w < 27 ∧ v = (w : Int) ∧ isW t s e w
theorem WdR.iff {t : Nat → Int} {s e w : Nat} {v : Int} (h : WdR t s e v) (hw : w < 27) : v = (w : Int) ↔ isW t s e w := by
  rcases h with ⟨rfl, h⟩ | ⟨u, u1, rfl, u2⟩
  · constructor
    · intro e; omega
    · intro e; exact absurd e (h w hw)
  · constructor
    · intro e
      have : u = w := by omega
      rw [← this]; exact u2
    · intro e
      rw [u2.uniq e u1 hw]
theorem WdR.le {t : Nat → Int} {s e : Nat} {v : Int} (h : WdR t s e v) : -1 ≤ v ∧ v ≤ 26 := by
  rcases h with ⟨rfl, h⟩ | ⟨u, u1, rfl, u2⟩ <;> omega
def numV (t : Nat → Int) (s : Nat) : Nat → Int
  | 0 => 0
  | k + 1 => 10 * numV t s k + t (s + k) - 48
theorem numV_s {t : Nat → Int} {s k : Nat} : numV t s (k + 1) = 10 * numV t s k + t (s + k) - 48 := rfl
theorem numV_le {t : Nat → Int} {s : Nat} : ∀ k, k ≤ 4 → (∀ j, j < k → dgt (t (s + j))) → 0 ≤ numV t s k ∧ (k = 0 → numV t s k = 0) ∧ (k = 1 → numV t s k ≤ 9) ∧ (k = 2 → numV t s k ≤ 99) ∧ (k = 3 → numV t s k ≤ 999) ∧ numV t s k ≤ 9999
  | 0, _, _ => by simp [numV]
  | k + 1, hk, h => by
    have ih := numV_le (t := t) (s := s) k (by omega) (fun j hj => h j (by omega))
    have hd := h k (by omega)
    unfold dgt at hd
    rw [numV_s]
    omega
theorem numV_cg {t u : Nat → Int} {s : Nat} : ∀ k, (∀ j, j < k → t (s + j) = u (s + j)) → numV t s k = numV u s k
  | 0, _ => rfl
  | k + 1, h => by rw [numV_s, numV_s, numV_cg k (fun j hj => h j (by omega)), h k (by omega)]
/-- what stands at s: nothing, a word, a number, a sign; g: glued to what is before -/
def Tok (N : Nat) (t : Nat → Int) (s : Nat) (g : Bool) (e : Nat) (kd : Int) : Prop := (s = N ∧ kd = 0 ∧ e = N) ∨ (s < N ∧ ¬blk (t s) ∧ ((ltr (t s) ∧ RunP ltr N t s e ∧ kd = (if g = true then 5 else 1)) ∨ (dgt (t s) ∧ RunP dgt N t s e ∧ kd = (if g = true then 5 else 2)) ∨ (¬ltr (t s) ∧ ¬dgt (t s) ∧ e = s + 1 ∧ kd = 3)))
/-- the text in the class; its token -/
def TxX (σ : mM) (N : Nat) (t : Nat → Int) : Prop := σ 1 1 = (N : Int) ∧ N ≤ 1600 ∧ ∀ k, k < N → σ 2 k = t k ∧ 0 ≤ t k ∧ t k ≤ 255
def TX (σ : mM) (N : Nat) (t : Nat → Int) (s : Nat) (g : Bool) : Prop := ∃ (e : Nat) (kd : Int), σ 20 1 = kd ∧ σ 20 2 = (s : Int) ∧ σ 20 3 = (e : Int) ∧ Tok N t s g e kd ∧ (kd = 1 → WdR t s e (σ 20 4)) ∧ (kd = 2 → σ 20 5 = numV t s (min 4 (e - s)))
def tkL : List (Nat × Nat) := [(20, 1), (20, 2), (20, 3), (20, 4), (20, 5)]
theorem TX.cg {σ σ' : mM} {N : Nat} {t : Nat → Int} {s : Nat} {g : Bool} (h : TX σ N t s g) (e : σ' 20 = σ 20) : TX σ' N t s g := by
  unfold TX at *; rw [e]; exact h
theorem TxX.cg {σ σ' : mM} {N : Nat} {t : Nat → Int} (h : TxX σ N t) (e : σ' 1 1 = σ 1 1) (e2 : σ' 2 = σ 2) : TxX σ' N t := by
  unfold TxX at *; rw [e, e2]; exact h
section
variable {d : Nat} {σ σ0 : mM} {K : Option mV → mM → Prop} {N : Nat} {t : Nat → Int}
theorem x_kindOf {c : Int} (h4 : c = 10 ∨ c = 32 → K (some (.inl 4)) σ) (h1 : 97 ≤ c ∧ c ≤ 122 → K (some (.inl 1)) σ) (h2 : 48 ≤ c ∧ c ≤ 57 → K (some (.inl 2)) σ) (h3 : ¬(c = 10 ∨ c = 32) → ¬(97 ≤ c ∧ c ≤ 122) → ¬(48 ≤ c ∧ c ≤ 57) → K (some (.inl 3)) σ) : Mt (d + 1) 92 [.inl c] σ K := by
  refine Mt.go (lv := [some (.inl c)]) rfl rfl rfl ?_
  repeat' (first | (exact h4 (by omega)) | (exact h1 (by omega)) | (exact h2 (by omega)) | (exact h3 (by omega) (by omega) (by omega)) | (refine ⟨⟨by omega, by omega⟩, ?_⟩) | split | (refine At.blk rfl rfl rfl fun sx => ?_; simp (decide := true) only [RR, ms_app, toList_some, toList_none, if_true, if_false, true_and, and_true, cond_true, sm0, sm1, sm1l, sm2, lc_lt, lc_gt, lc_eq, Int.toNat_natCast, Int.reduceToNat, Nat.reduceAdd, Nat.reduceEqDiff, Int.reduceLT, Int.reduceEq, Int.reduceNeg, Int.reduceAdd, Int.reduceMul, Nat.reduceMul, ms_n, ms_i, ms_l, ms_p, PX]))
theorem x_isSolid (h1 : σ 20 1 = 1 ∨ σ 20 1 = 2 → K (some (.inl 1)) σ) (h0 : ¬(σ 20 1 = 1 ∨ σ 20 1 = 2) → K (some (.inl 0)) σ) : Mt (d + 1) 89 [.inr (.inr 20)] σ K := by
  refine Mt.go (lv := [some (.inr (.inr 20))]) rfl rfl rfl ?_
  repeat' (first | (exact h1 (by omega)) | (exact h0 (by omega)) | (refine ⟨⟨by omega, by omega⟩, ?_⟩) | split | (refine At.blk rfl rfl rfl fun sx => ?_; simp (decide := true) only [RR, ms_app, toList_some, toList_none, if_true, if_false, true_and, and_true, cond_true, sm0, sm1, sm1l, sm2, lc_lt, lc_gt, lc_eq, Int.toNat_natCast, Int.reduceToNat, Nat.reduceAdd, Nat.reduceEqDiff, Int.reduceLT, Int.reduceEq, Int.reduceNeg, Int.reduceAdd, Int.reduceMul, Nat.reduceMul, ms_n, ms_i, ms_l, ms_p, PX]))
theorem x_findNumber {s e : Nat} (hF : Fix σ) (hT : TxX σ N t) (h2 : σ 20 2 = (s : Int)) (h3 : σ 20 3 = (e : Int)) (hr : RunP dgt N t s e) (hK : K (some (.inl (numV t s (min 4 (e - s))))) σ) : Mt (d + 1) 91 [.inr (.inr 20)] σ K := by
  refine Mt.go (lv := [some (.inr (.inr 20)), none, none]) rfl rfl rfl ?_
  obtain ⟨r1, r2, r3, r4⟩ := hr
  obtain ⟨t1, t2, t3⟩ := hT
  refine At.blk rfl rfl rfl fun sx => ?_
  simp (decide := true) only [RR, ms_app, toList_some, toList_none, if_true, if_false, true_and, and_true, cond_true, sm0, sm1, sm1l, sm2, lc_lt, lc_gt, lc_eq, Int.toNat_natCast, Int.reduceToNat, Nat.reduceAdd, Nat.reduceEqDiff, Int.reduceLT, Int.reduceEq, Int.reduceNeg, Int.reduceAdd, Int.reduceMul, Nat.reduceMul, ms_n, ms_i, ms_l, ms_p, PX, h2]
  have loop : ∀ m k : Nat, min 4 (e - s) - k = m → k ≤ min 4 (e - s) → At d 91 1 [some (.inr (.inr 20)), some (.inl (numV t s k)), some (.inl ((s + k : Nat) : Int))] [] σ K := by
    intro m
    induction m with
    | zero =>
      intro k hk hk2
      obtain rfl : k = min 4 (e - s) := by omega
      refine At.blk rfl rfl rfl fun sx => ?_
      simp (decide := true) only [RR, ms_app, toList_some, toList_none, if_true, if_false, true_and, and_true, cond_true, sm0, sm1, sm1l, sm2, lc_lt, lc_gt, lc_eq, Int.toNat_natCast, Int.reduceToNat, Nat.reduceAdd, Nat.reduceEqDiff, Int.reduceLT, Int.reduceEq, Int.reduceNeg, Int.reduceAdd, Int.reduceMul, Nat.reduceMul, ms_n, ms_i, ms_l, ms_p, PX, h2, h3]
      by_cases c1 : ((s + min 4 (e - s) : Nat) : Int) < (e : Int)
      · rw [if_pos c1, w32_small (by omega) (by omega), if_neg (by omega)]
        refine At.blk rfl rfl rfl fun sx => ?_
        simp (decide := true) only [RR, ms_app, toList_some, toList_none, if_true, if_false, true_and, and_true, cond_true, sm0, sm1, sm1l, sm2, lc_lt, lc_gt, lc_eq, Int.toNat_natCast, Int.reduceToNat, Nat.reduceAdd, Nat.reduceEqDiff, Int.reduceLT, Int.reduceEq, Int.reduceNeg, Int.reduceAdd, Int.reduceMul, Nat.reduceMul, ms_n, ms_i, ms_l, ms_p, PX]
        exact hK
      · rw [if_neg c1]
        refine At.blk rfl rfl rfl fun sx => ?_
        simp (decide := true) only [RR, ms_app, toList_some, toList_none, if_true, if_false, true_and, and_true, cond_true, sm0, sm1, sm1l, sm2, lc_lt, lc_gt, lc_eq, Int.toNat_natCast, Int.reduceToNat, Nat.reduceAdd, Nat.reduceEqDiff, Int.reduceLT, Int.reduceEq, Int.reduceNeg, Int.reduceAdd, Int.reduceMul, Nat.reduceMul, ms_n, ms_i, ms_l, ms_p, PX]
        exact hK
    | succ m ih =>
      intro k hk hk2
      have hn := numV_le (t := t) (s := s) k (by omega) (fun j hj => r3 _ (by omega) (by omega))
      have hd := r3 (s + k) (by omega) (by omega)
      unfold dgt at hd
      have w1 : Unit → w32 (((s + k : Nat) : Int) + 1) = ((s + (k + 1) : Nat) : Int) := fun _ => by rw [w32_small (by omega) (by omega)]; omega
      have w2 : Unit → w32 (w32 (w32 (10 * numV t s k) + t (s + k)) - 48) = numV t s (k + 1) := fun _ => by
        rw [w32_small (x := 10 * numV t s k) (by omega) (by omega), w32_small (x := 10 * numV t s k + t (s + k)) (by omega) (by omega), w32_small (by omega) (by omega), numV_s]
      have w3 : Unit → w32 ((s : Int) + 4) = (s : Int) + 4 := fun _ => w32_small (by omega) (by omega)
      refine At.blk rfl rfl rfl fun sx => ?_
      simp (decide := true) only [RR, ms_app, toList_some, toList_none, if_true, if_false, true_and, and_true, cond_true, sm0, sm1, sm1l, sm2, lc_lt, lc_gt, lc_eq, Int.toNat_natCast, Int.reduceToNat, Nat.reduceAdd, Nat.reduceEqDiff, Int.reduceLT, Int.reduceEq, Int.reduceNeg, Int.reduceAdd, Int.reduceMul, Nat.reduceMul, ms_n, ms_i, ms_l, ms_p, PX, fxX hF, h2, h3, w3 (), (t3 (s + k) (by omega)).1, w2 (), w1 ()]
      rw [if_pos (by omega), if_pos (by omega)]
      refine ⟨⟨by omega, by omega⟩, ?_⟩
      exact ih (k + 1) (by omega) (by omega)
  exact loop (min 4 (e - s)) 0 rfl (by omega)
theorem x_findWord {s e : Nat} (hF : Fix σ) (hT : TxX σ N t) (h2 : σ 20 2 = (s : Int)) (h3 : σ 20 3 = (e : Int)) (hr : RunP ltr N t s e) (hK : ∀ v, WdR t s e v → K (some (.inl v)) σ) : Mt (d + 1) 90 [.inr (.inr 20)] σ K := by
  refine Mt.go (lv := [some (.inr (.inr 20)), none, none, none, none]) rfl rfl rfl ?_
  obtain ⟨r1, r2, r3, r4⟩ := hr
  obtain ⟨t1, t2, t3⟩ := hT
  have w0 : Unit → w32 ((e : Int) - (s : Int)) = ((e - s : Nat) : Int) := fun _ => by rw [w32_small (by omega) (by omega)]; omega
  have l32 : ∀ k, k < e - s → t (s + k) ≠ 32 := fun k hk => by
    have := r3 (s + k) (by omega) (by omega)
    unfold ltr at this; omega
  refine At.blk rfl rfl rfl fun sx => ?_
  simp (decide := true) only [RR, ms_app, toList_some, toList_none, if_true, if_false, true_and, and_true, cond_true, sm0, sm1, sm1l, sm2, lc_lt, lc_gt, lc_eq, Int.toNat_natCast, Int.reduceToNat, Nat.reduceAdd, Nat.reduceEqDiff, Int.reduceLT, Int.reduceEq, Int.reduceNeg, Int.reduceAdd, Int.reduceMul, Nat.reduceMul, ms_n, ms_i, ms_l, ms_p, PX, h2, h3, w0 ()]
  have loop : ∀ m w : Nat, 27 - w = m → w ≤ 27 → ∀ (o3 o4 : Option mV), (∀ v, v < w → ¬isW t s e v) → At d 90 1 [some (.inr (.inr 20)), some (.inl ((e - s : Nat) : Int)), some (.inl (w : Int)), o3, o4] [] σ K := by
    intro m
    induction m with
    | zero =>
      intro w hw hw2 o3 o4 hn
      obtain rfl : w = 27 := by omega
      refine At.blk rfl rfl rfl fun sx => ?_
      simp (decide := true) only [RR, ms_app, toList_some, toList_none, if_true, if_false, true_and, and_true, cond_true, sm0, sm1, sm1l, sm2, lc_lt, lc_gt, lc_eq, Int.toNat_natCast, Int.reduceToNat, Nat.reduceAdd, Nat.reduceEqDiff, Int.reduceLT, Int.reduceEq, Int.reduceNeg, Int.reduceAdd, Int.reduceMul, Nat.reduceMul, ms_n, ms_i, ms_l, ms_p, PX]
      refine At.blk rfl rfl rfl fun sx => ?_
      simp (decide := true) only [RR, ms_app, toList_some, toList_none, if_true, if_false, true_and, and_true, cond_true, sm0, sm1, sm1l, sm2, lc_lt, lc_gt, lc_eq, Int.toNat_natCast, Int.reduceToNat, Nat.reduceAdd, Nat.reduceEqDiff, Int.reduceLT, Int.reduceEq, Int.reduceNeg, Int.reduceAdd, Int.reduceMul, Nat.reduceMul, ms_n, ms_i, ms_l, ms_p, PX]
      exact hK _ (Or.inl ⟨rfl, hn⟩)
    | succ m ih =>
      intro w hw hw2 o3 o4 hn
      obtain ⟨l1, l2⟩ := wl_tab w (by omega)
      have w1 : Unit → w32 ((w : Int) + 1) = ((w + 1 : Nat) : Int) := fun _ => by rw [w32_small (by omega) (by omega)]; omega
      have w6 : Unit → w32 ((w : Int) * 6) = ((6 * w : Nat) : Int) := fun _ => by rw [w32_small (by omega) (by omega)]; omega
      refine At.blk rfl rfl rfl fun sx => ?_
      simp (decide := true) only [RR, ms_app, toList_some, toList_none, if_true, if_false, true_and, and_true, cond_true, sm0, sm1, sm1l, sm2, lc_lt, lc_gt, lc_eq, Int.toNat_natCast, Int.reduceToNat, Nat.reduceAdd, Nat.reduceEqDiff, Int.reduceLT, Int.reduceEq, Int.reduceNeg, Int.reduceAdd, Int.reduceMul, Nat.reduceMul, ms_n, ms_i, ms_l, ms_p, PX, w6 ()]
      rw [if_pos (by omega)]
      by_cases c6 : 6 < ((e - s : Nat) : Int)
      · rw [if_pos c6]
        refine At.blk rfl rfl rfl fun sx => ?_
        simp (decide := true) only [RR, ms_app, toList_some, toList_none, if_true, if_false, true_and, and_true, cond_true, sm0, sm1, sm1l, sm2, lc_lt, lc_gt, lc_eq, Int.toNat_natCast, Int.reduceToNat, Nat.reduceAdd, Nat.reduceEqDiff, Int.reduceLT, Int.reduceEq, Int.reduceNeg, Int.reduceAdd, Int.reduceMul, Nat.reduceMul, ms_n, ms_i, ms_l, ms_p, PX]
        refine hK _ (Or.inl ⟨rfl, fun v hv h => ?_⟩)
        have := (wl_tab v hv).1
        have := h.1
        omega
      · rw [if_neg c6]
        have five : ∀ k : Nat, ¬isW t s e w → At d 90 5 [some (.inr (.inr 20)), some (.inl ((e - s : Nat) : Int)), some (.inl (w : Int)), some (.inl ((6 * w : Nat) : Int)), some (.inl (k : Int))] [] σ K := by
          intro k hno
          refine At.blk rfl rfl rfl fun sx => ?_
          simp (decide := true) only [RR, ms_app, toList_some, toList_none, if_true, if_false, true_and, and_true, cond_true, sm0, sm1, sm1l, sm2, lc_lt, lc_gt, lc_eq, Int.toNat_natCast, Int.reduceToNat, Nat.reduceAdd, Nat.reduceEqDiff, Int.reduceLT, Int.reduceEq, Int.reduceNeg, Int.reduceAdd, Int.reduceMul, Nat.reduceMul, ms_n, ms_i, ms_l, ms_p, PX, w1 ()]
          refine ih (w + 1) (by omega) (by omega) _ _ (fun v hv => ?_)
          by_cases e1 : v = w
          · rw [e1]; exact hno
          · exact hn v (by omega)
        have four : ∀ k : Nat, isW t s e w → At d 90 4 [some (.inr (.inr 20)), some (.inl ((e - s : Nat) : Int)), some (.inl (w : Int)), some (.inl ((6 * w : Nat) : Int)), some (.inl (k : Int))] [] σ K := by
          intro k hy
          refine At.blk rfl rfl rfl fun sx => ?_
          simp (decide := true) only [RR, ms_app, toList_some, toList_none, if_true, if_false, true_and, and_true, cond_true, sm0, sm1, sm1l, sm2, lc_lt, lc_gt, lc_eq, Int.toNat_natCast, Int.reduceToNat, Nat.reduceAdd, Nat.reduceEqDiff, Int.reduceLT, Int.reduceEq, Int.reduceNeg, Int.reduceAdd, Int.reduceMul, Nat.reduceMul, ms_n, ms_i, ms_l, ms_p, PX]
          exact hK _ (Or.inr ⟨w, by omega, rfl, hy⟩)
        have loop2 : ∀ m k : Nat, e - s - k = m → k ≤ e - s → (∀ j, j < k → t (s + j) = wch w j) → At d 90 2 [some (.inr (.inr 20)), some (.inl ((e - s : Nat) : Int)), some (.inl (w : Int)), some (.inl ((6 * w : Nat) : Int)), some (.inl (k : Int))] [] σ K := by
          intro m
          induction m with
          | zero =>
            intro k hk hk2 hq
            obtain rfl : k = e - s := by omega
            refine At.blk rfl rfl rfl fun sx => ?_
            simp (decide := true) only [RR, ms_app, toList_some, toList_none, if_true, if_false, true_and, and_true, cond_true, sm0, sm1, sm1l, sm2, lc_lt, lc_gt, lc_eq, Int.toNat_natCast, Int.reduceToNat, Nat.reduceAdd, Nat.reduceEqDiff, Int.reduceLT, Int.reduceEq, Int.reduceNeg, Int.reduceAdd, Int.reduceMul, Nat.reduceMul, ms_n, ms_i, ms_l, ms_p, PX]
            rw [if_neg (by omega)]
            have w7 : Unit → w32 (((6 * w : Nat) : Int) + ((e - s : Nat) : Int)) = ((6 * w + (e - s) : Nat) : Int) := fun _ => by rw [w32_small (by omega) (by omega)]; omega
            refine At.blk rfl rfl rfl fun sx => ?_
            simp (decide := true) only [RR, ms_app, toList_some, toList_none, if_true, if_false, true_and, and_true, cond_true, sm0, sm1, sm1l, sm2, lc_lt, lc_gt, lc_eq, Int.toNat_natCast, Int.reduceToNat, Nat.reduceAdd, Nat.reduceEqDiff, Int.reduceLT, Int.reduceEq, Int.reduceNeg, Int.reduceAdd, Int.reduceMul, Nat.reduceMul, ms_n, ms_i, ms_l, ms_p, PX, w7 ()]
            by_cases c7 : ((e - s : Nat) : Int) = 6
            · rw [if_pos c7]
              refine four _ ⟨?_, fun k hk => hq k (by omega)⟩
              have h5 := l32 5 (by omega)
              rw [hq 5 (by omega)] at h5
              have := l2 5 (by decide)
              have : ¬wl w ≤ 5 := fun h => h5 (this.mpr h)
              omega
            · rw [if_neg c7]
              refine ⟨⟨by omega, by omega⟩, ?_⟩
              have ec : ((mj_txt.getD (6 * w + (e - s)) 0 : Nat) : Int) = wch w (e - s) := rfl
              rw [ec]
              have hl := l2 (e - s) (by omega)
              by_cases c8 : wch w (e - s) = 32
              · rw [if_pos c8]
                have h8 := hl.mp c8
                refine four _ ⟨?_, fun k hk => hq k (by omega)⟩
                rcases Nat.lt_or_ge (wl w) (e - s) with h9 | h9
                · exfalso
                  have h5 := l32 (wl w) h9
                  rw [hq (wl w) h9] at h5
                  exact h5 ((l2 (wl w) (by omega)).mpr (Nat.le_refl _))
                · omega
              · rw [if_neg c8]
                refine five _ (fun h => ?_)
                have h10 := h.1
                exact c8 (hl.mpr (by omega))
          | succ m ih2 =>
            intro k hk hk2 hq
            have w7 : Unit → w32 (((6 * w : Nat) : Int) + (k : Int)) = ((6 * w + k : Nat) : Int) := fun _ => by rw [w32_small (by omega) (by omega)]; omega
            have w8 : Unit → w32 ((s : Int) + (k : Int)) = ((s + k : Nat) : Int) := fun _ => by rw [w32_small (by omega) (by omega)]; omega
            have w9 : Unit → w32 ((k : Int) + 1) = ((k + 1 : Nat) : Int) := fun _ => by rw [w32_small (by omega) (by omega)]; omega
            have ec : ((mj_txt.getD (6 * w + k) 0 : Nat) : Int) = wch w k := rfl
            refine At.blk rfl rfl rfl fun sx => ?_
            simp (decide := true) only [RR, ms_app, toList_some, toList_none, if_true, if_false, true_and, and_true, cond_true, sm0, sm1, sm1l, sm2, lc_lt, lc_gt, lc_eq, Int.toNat_natCast, Int.reduceToNat, Nat.reduceAdd, Nat.reduceEqDiff, Int.reduceLT, Int.reduceEq, Int.reduceNeg, Int.reduceAdd, Int.reduceMul, Nat.reduceMul, ms_n, ms_i, ms_l, ms_p, PX, fxX hF, h2, w7 (), w8 (), (t3 (s + k) (by omega)).1, ec]
            rw [if_pos (by omega)]
            refine ⟨⟨by omega, by omega⟩, ⟨by omega, by omega⟩, ?_⟩
            by_cases c : wch w k = t (s + k)
            · rw [if_pos c, w9 ()]
              refine ih2 (k + 1) (by omega) (by omega) (fun j hj => ?_)
              by_cases e1 : j = k
              · rw [e1]; exact c.symm
              · exact hq j (by omega)
            · rw [if_neg c]
              have hno : ¬isW t s e w := fun h => c (h.2 k (by have := h.1; omega)).symm
              refine At.blk rfl rfl rfl fun sx => ?_
              simp (decide := true) only [RR, ms_app, toList_some, toList_none, if_true, if_false, true_and, and_true, cond_true, sm0, sm1, sm1l, sm2, lc_lt, lc_gt, lc_eq, Int.toNat_natCast, Int.reduceToNat, Nat.reduceAdd, Nat.reduceEqDiff, Int.reduceLT, Int.reduceEq, Int.reduceNeg, Int.reduceAdd, Int.reduceMul, Nat.reduceMul, ms_n, ms_i, ms_l, ms_p, PX, w7 ()]
              rw [if_neg (by omega), if_neg (by omega)]
              exact five k hno
        exact loop2 (e - s) 0 rfl (by omega) (fun j hj => absurd hj (by omega))
  exact loop 27 0 rfl (by omega) none none (fun v hv => absurd hv (by omega))
end
