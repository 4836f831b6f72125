/-! image -/
/-- m numbers of a row from o on told by f -/
def rowO (σ : mM) (q o : Nat) (f : Nat → Int) (m : Nat) : mM := fun q' k => if q' = q then (if o ≤ k ∧ k < o + m then f k else σ q' k) else σ q' k
theorem rowO_app {σ : mM} {q o m q' k : Nat} {f : Nat → Int} : rowO σ q o f m q' k = (if q' = q then (if o ≤ k ∧ k < o + m then f k else σ q' k) else σ q' k) := rfl
theorem rowO_ne {σ : mM} {q o m q' : Nat} {f : Nat → Int} (h : q' ≠ q) : rowO σ q o f m q' = σ q' := by
  funext k
  rw [rowO_app, if_neg h]
theorem rowO_push {σ : mM} {q o m : Nat} {f : Nat → Int} : mj_set (rowO σ q o f m) q (o + m) (f (o + m)) = rowO σ q o f (m + 1) := by
  funext q' k
  simp only [ms_app, rowO_app]
  by_cases c1 : q' = q
  · subst c1
    simp only [if_true]
    by_cases c2 : k = o + m
    · rw [if_pos c2, if_pos (by omega), c2]
    · rw [if_neg c2]
      by_cases c3 : o ≤ k ∧ k < o + m
      · rw [if_pos c3, if_pos (by omega)]
      · rw [if_neg c3, if_neg (by omega)]
  · simp only [c1, if_false]
theorem rowO0 {σ : mM} {q o : Nat} {f : Nat → Int} : rowO σ q o f 0 = σ := by
  funext q' k
  rw [rowO_app]
  by_cases c1 : q' = q
  · rw [if_pos c1, if_neg (by omega)]
  · rw [if_neg c1]
theorem fix_rowO {σ : mM} {q o m : Nat} {f : Nat → Int} (hF : Fix σ) (h : nofB q = true) : Fix (rowO σ q o f m) := by
  refine hF.row (fun q' k hq hf => ?_)
  rw [rowO_app]
  by_cases c1 : q' = q
  · subst c1; rw [nofix h] at hf; cases hf
  · rw [if_neg c1]
def chkN (row : Nat → Int) : Nat → Int
  | 0 => 137
  | n + 1 => (3 * chkN row n + row n) % 251
theorem chkN_le (row : Nat → Int) : ∀ n : Nat, 0 ≤ chkN row n ∧ chkN row n ≤ 250
  | 0 => by show (0 : Int) ≤ 137 ∧ (137 : Int) ≤ 250; decide
  | n + 1 => by simp only [chkN]; omega
theorem chkN_cg {f g : Nat → Int} : ∀ n : Nat, (∀ k, k < n → f k = g k) → chkN f n = chkN g n
  | 0, _ => rfl
  | n + 1, h => by
    simp only [chkN]
    rw [chkN_cg n (fun k hk => h k (by omega)), h n (by omega)]
section
variable {d : Nat} {σ : mM} {K : Option mV → mM → Prop}
theorem x_checkOf2 {n : Nat} (hn : n ≤ 1600) (hr : ∀ k, k < n → 0 ≤ σ 2 k ∧ σ 2 k ≤ 255) (hK : K (some (.inl (chkN (σ 2) n))) σ) : Mt (d + 1) 149 [.inr (.inr 2), .inl (n : Int)] σ K := by
  refine Mt.go (lv := [some (.inr (.inr 2)), some (.inl (n : Int)), none, none]) rfl rfl rfl ?_
  refine At.blk rfl rfl rfl fun sx => ?_
  simp (decide := true) only [RR, ms_app, toList_some, toList_none, if_true, if_false, true_and, and_true, cond_true, sm0, sm1, sm1l, sm2, lc_lt, lc_gt, lc_eq, Int.toNat_natCast, Int.reduceToNat, Nat.reduceAdd, Nat.reduceEqDiff, Int.reduceLT, Int.reduceEq, Int.reduceNeg, Int.reduceAdd, Int.reduceMul, Nat.reduceMul, ms_n, ms_i, ms_l, ms_p, PX]
  have loop : ∀ m k : Nat, n - k = m → k ≤ n → At d 149 1 [some (.inr (.inr 2)), some (.inl (n : Int)), some (.inl (chkN (σ 2) k)), some (.inl (k : Int))] [] σ K := by
    intro m
    induction m with
    | zero =>
      intro k hk hk2
      obtain rfl : k = n := by omega
      refine At.blk rfl rfl rfl fun sx => ?_
      simp (decide := true) only [RR, ms_app, toList_some, toList_none, if_true, if_false, true_and, and_true, cond_true, sm0, sm1, sm1l, sm2, lc_lt, lc_gt, lc_eq, Int.toNat_natCast, Int.reduceToNat, Nat.reduceAdd, Nat.reduceEqDiff, Int.reduceLT, Int.reduceEq, Int.reduceNeg, Int.reduceAdd, Int.reduceMul, Nat.reduceMul, ms_n, ms_i, ms_l, ms_p, PX]
      rw [if_neg (by omega)]
      refine At.blk rfl rfl rfl fun sx => ?_
      simp (decide := true) only [RR, ms_app, toList_some, toList_none, if_true, if_false, true_and, and_true, cond_true, sm0, sm1, sm1l, sm2, lc_lt, lc_gt, lc_eq, Int.toNat_natCast, Int.reduceToNat, Nat.reduceAdd, Nat.reduceEqDiff, Int.reduceLT, Int.reduceEq, Int.reduceNeg, Int.reduceAdd, Int.reduceMul, Nat.reduceMul, ms_n, ms_i, ms_l, ms_p, PX]
      exact hK
    | succ m ih =>
      intro k hk hk2
      have c := chkN_le (σ 2) k
      have r := hr k (by omega)
      refine At.blk rfl rfl rfl fun sx => ?_
      simp (decide := true) only [RR, ms_app, toList_some, toList_none, if_true, if_false, true_and, and_true, cond_true, sm0, sm1, sm1l, sm2, lc_lt, lc_gt, lc_eq, Int.toNat_natCast, Int.reduceToNat, Nat.reduceAdd, Nat.reduceEqDiff, Int.reduceLT, Int.reduceEq, Int.reduceNeg, Int.reduceAdd, Int.reduceMul, Nat.reduceMul, ms_n, ms_i, ms_l, ms_p, PX]
      rw [if_pos (by omega), if_pos (by omega)]
      refine ⟨⟨by omega, by omega⟩, ?_⟩
      rw [w32_small (x := 3 * chkN (σ 2) k) (by omega) (by omega), w32_small (x := 3 * chkN (σ 2) k + σ 2 k) (by omega) (by omega), w32_small (by omega) (by omega), Int.tmod_eq_emod_of_nonneg (by omega)]
      exact ih (k + 1) (by omega) (by omega)
  exact loop n 0 rfl (by omega)
theorem x_checkOf144 {n : Nat} (hn : n ≤ 24) (hr : ∀ k, k < n → 0 ≤ σ 144 k ∧ σ 144 k ≤ 255) (hK : K (some (.inl (chkN (σ 144) n))) σ) : Mt (d + 1) 149 [.inr (.inr 144), .inl (n : Int)] σ K := by
  refine Mt.go (lv := [some (.inr (.inr 144)), some (.inl (n : Int)), none, none]) rfl rfl rfl ?_
  refine At.blk rfl rfl rfl fun sx => ?_
  simp (decide := true) only [RR, ms_app, toList_some, toList_none, if_true, if_false, true_and, and_true, cond_true, sm0, sm1, sm1l, sm2, lc_lt, lc_gt, lc_eq, Int.toNat_natCast, Int.reduceToNat, Nat.reduceAdd, Nat.reduceEqDiff, Int.reduceLT, Int.reduceEq, Int.reduceNeg, Int.reduceAdd, Int.reduceMul, Nat.reduceMul, ms_n, ms_i, ms_l, ms_p, PX]
  have loop : ∀ m k : Nat, n - k = m → k ≤ n → At d 149 1 [some (.inr (.inr 144)), some (.inl (n : Int)), some (.inl (chkN (σ 144) k)), some (.inl (k : Int))] [] σ K := by
    intro m
    induction m with
    | zero =>
      intro k hk hk2
      obtain rfl : k = n := by omega
      refine At.blk rfl rfl rfl fun sx => ?_
      simp (decide := true) only [RR, ms_app, toList_some, toList_none, if_true, if_false, true_and, and_true, cond_true, sm0, sm1, sm1l, sm2, lc_lt, lc_gt, lc_eq, Int.toNat_natCast, Int.reduceToNat, Nat.reduceAdd, Nat.reduceEqDiff, Int.reduceLT, Int.reduceEq, Int.reduceNeg, Int.reduceAdd, Int.reduceMul, Nat.reduceMul, ms_n, ms_i, ms_l, ms_p, PX]
      rw [if_neg (by omega)]
      refine At.blk rfl rfl rfl fun sx => ?_
      simp (decide := true) only [RR, ms_app, toList_some, toList_none, if_true, if_false, true_and, and_true, cond_true, sm0, sm1, sm1l, sm2, lc_lt, lc_gt, lc_eq, Int.toNat_natCast, Int.reduceToNat, Nat.reduceAdd, Nat.reduceEqDiff, Int.reduceLT, Int.reduceEq, Int.reduceNeg, Int.reduceAdd, Int.reduceMul, Nat.reduceMul, ms_n, ms_i, ms_l, ms_p, PX]
      exact hK
    | succ m ih =>
      intro k hk hk2
      have c := chkN_le (σ 144) k
      have r := hr k (by omega)
      refine At.blk rfl rfl rfl fun sx => ?_
      simp (decide := true) only [RR, ms_app, toList_some, toList_none, if_true, if_false, true_and, and_true, cond_true, sm0, sm1, sm1l, sm2, lc_lt, lc_gt, lc_eq, Int.toNat_natCast, Int.reduceToNat, Nat.reduceAdd, Nat.reduceEqDiff, Int.reduceLT, Int.reduceEq, Int.reduceNeg, Int.reduceAdd, Int.reduceMul, Nat.reduceMul, ms_n, ms_i, ms_l, ms_p, PX]
      rw [if_pos (by omega), if_pos (by omega)]
      refine ⟨⟨by omega, by omega⟩, ?_⟩
      rw [w32_small (x := 3 * chkN (σ 144) k) (by omega) (by omega), w32_small (x := 3 * chkN (σ 144) k + σ 144 k) (by omega) (by omega), w32_small (by omega) (by omega), Int.tmod_eq_emod_of_nonneg (by omega)]
      exact ih (k + 1) (by omega) (by omega)
  exact loop n 0 rfl (by omega)
theorem m_checked147 {n : Nat} (hn : n ≤ 1600) (hr : ∀ k, k < n → 0 ≤ σ 147 k ∧ σ 147 k ≤ 255) (hK : K (some (.inl (chkN (σ 147) n))) σ) : Mt (d + 1) 266 [.inr (.inr 147), .inl (n : Int)] σ K := by
  refine Mt.go (lv := [some (.inr (.inr 147)), some (.inl (n : Int)), none, none]) rfl rfl rfl ?_
  refine At.blk rfl rfl rfl fun sx => ?_
  simp (decide := true) only [RR, ms_app, toList_some, toList_none, if_true, if_false, true_and, and_true, cond_true, sm0, sm1, sm1l, sm2, lc_lt, lc_gt, lc_eq, Int.toNat_natCast, Int.reduceToNat, Nat.reduceAdd, Nat.reduceEqDiff, Int.reduceLT, Int.reduceEq, Int.reduceNeg, Int.reduceAdd, Int.reduceMul, Nat.reduceMul, ms_n, ms_i, ms_l, ms_p, PM]
  have loop : ∀ m k : Nat, n - k = m → k ≤ n → At d 266 1 [some (.inr (.inr 147)), some (.inl (n : Int)), some (.inl (chkN (σ 147) k)), some (.inl (k : Int))] [] σ K := by
    intro m
    induction m with
    | zero =>
      intro k hk hk2
      obtain rfl : k = n := by omega
      refine At.blk rfl rfl rfl fun sx => ?_
      simp (decide := true) only [RR, ms_app, toList_some, toList_none, if_true, if_false, true_and, and_true, cond_true, sm0, sm1, sm1l, sm2, lc_lt, lc_gt, lc_eq, Int.toNat_natCast, Int.reduceToNat, Nat.reduceAdd, Nat.reduceEqDiff, Int.reduceLT, Int.reduceEq, Int.reduceNeg, Int.reduceAdd, Int.reduceMul, Nat.reduceMul, ms_n, ms_i, ms_l, ms_p, PM]
      rw [if_neg (by omega)]
      refine At.blk rfl rfl rfl fun sx => ?_
      simp (decide := true) only [RR, ms_app, toList_some, toList_none, if_true, if_false, true_and, and_true, cond_true, sm0, sm1, sm1l, sm2, lc_lt, lc_gt, lc_eq, Int.toNat_natCast, Int.reduceToNat, Nat.reduceAdd, Nat.reduceEqDiff, Int.reduceLT, Int.reduceEq, Int.reduceNeg, Int.reduceAdd, Int.reduceMul, Nat.reduceMul, ms_n, ms_i, ms_l, ms_p, PM]
      exact hK
    | succ m ih =>
      intro k hk hk2
      have c := chkN_le (σ 147) k
      have r := hr k (by omega)
      refine At.blk rfl rfl rfl fun sx => ?_
      simp (decide := true) only [RR, ms_app, toList_some, toList_none, if_true, if_false, true_and, and_true, cond_true, sm0, sm1, sm1l, sm2, lc_lt, lc_gt, lc_eq, Int.toNat_natCast, Int.reduceToNat, Nat.reduceAdd, Nat.reduceEqDiff, Int.reduceLT, Int.reduceEq, Int.reduceNeg, Int.reduceAdd, Int.reduceMul, Nat.reduceMul, ms_n, ms_i, ms_l, ms_p, PM]
      rw [if_pos (by omega)]
      refine ⟨⟨by omega, by omega⟩, ?_⟩
      rw [w32_small (x := 3 * chkN (σ 147) k) (by omega) (by omega), w32_small (x := 3 * chkN (σ 147) k + σ 147 k) (by omega) (by omega), w32_small (by omega) (by omega), Int.tmod_eq_emod_of_nonneg (by omega)]
      exact ih (k + 1) (by omega) (by omega)
  exact loop n 0 rfl (by omega)
theorem m_checked217 {n : Nat} (hn : n ≤ 24) (hr : ∀ k, k < n → 0 ≤ σ 217 k ∧ σ 217 k ≤ 255) (hK : K (some (.inl (chkN (σ 217) n))) σ) : Mt (d + 1) 266 [.inr (.inr 217), .inl (n : Int)] σ K := by
  refine Mt.go (lv := [some (.inr (.inr 217)), some (.inl (n : Int)), none, none]) rfl rfl rfl ?_
  refine At.blk rfl rfl rfl fun sx => ?_
  simp (decide := true) only [RR, ms_app, toList_some, toList_none, if_true, if_false, true_and, and_true, cond_true, sm0, sm1, sm1l, sm2, lc_lt, lc_gt, lc_eq, Int.toNat_natCast, Int.reduceToNat, Nat.reduceAdd, Nat.reduceEqDiff, Int.reduceLT, Int.reduceEq, Int.reduceNeg, Int.reduceAdd, Int.reduceMul, Nat.reduceMul, ms_n, ms_i, ms_l, ms_p, PM]
  have loop : ∀ m k : Nat, n - k = m → k ≤ n → At d 266 1 [some (.inr (.inr 217)), some (.inl (n : Int)), some (.inl (chkN (σ 217) k)), some (.inl (k : Int))] [] σ K := by
    intro m
    induction m with
    | zero =>
      intro k hk hk2
      obtain rfl : k = n := by omega
      refine At.blk rfl rfl rfl fun sx => ?_
      simp (decide := true) only [RR, ms_app, toList_some, toList_none, if_true, if_false, true_and, and_true, cond_true, sm0, sm1, sm1l, sm2, lc_lt, lc_gt, lc_eq, Int.toNat_natCast, Int.reduceToNat, Nat.reduceAdd, Nat.reduceEqDiff, Int.reduceLT, Int.reduceEq, Int.reduceNeg, Int.reduceAdd, Int.reduceMul, Nat.reduceMul, ms_n, ms_i, ms_l, ms_p, PM]
      rw [if_neg (by omega)]
      refine At.blk rfl rfl rfl fun sx => ?_
      simp (decide := true) only [RR, ms_app, toList_some, toList_none, if_true, if_false, true_and, and_true, cond_true, sm0, sm1, sm1l, sm2, lc_lt, lc_gt, lc_eq, Int.toNat_natCast, Int.reduceToNat, Nat.reduceAdd, Nat.reduceEqDiff, Int.reduceLT, Int.reduceEq, Int.reduceNeg, Int.reduceAdd, Int.reduceMul, Nat.reduceMul, ms_n, ms_i, ms_l, ms_p, PM]
      exact hK
    | succ m ih =>
      intro k hk hk2
      have c := chkN_le (σ 217) k
      have r := hr k (by omega)
      refine At.blk rfl rfl rfl fun sx => ?_
      simp (decide := true) only [RR, ms_app, toList_some, toList_none, if_true, if_false, true_and, and_true, cond_true, sm0, sm1, sm1l, sm2, lc_lt, lc_gt, lc_eq, Int.toNat_natCast, Int.reduceToNat, Nat.reduceAdd, Nat.reduceEqDiff, Int.reduceLT, Int.reduceEq, Int.reduceNeg, Int.reduceAdd, Int.reduceMul, Nat.reduceMul, ms_n, ms_i, ms_l, ms_p, PM]
      rw [if_pos (by omega)]
      refine ⟨⟨by omega, by omega⟩, ?_⟩
      rw [w32_small (x := 3 * chkN (σ 217) k) (by omega) (by omega), w32_small (x := 3 * chkN (σ 217) k + σ 217 k) (by omega) (by omega), w32_small (by omega) (by omega), Int.tmod_eq_emod_of_nonneg (by omega)]
      exact ih (k + 1) (by omega) (by omega)
  exact loop n 0 rfl (by omega)
end
/-- the bytes of an image, but its last -/
def picF (nt : Int) (air : Nat → Int) (ad : Nat → Int) (act : Nat → Int) (k : Nat) : Int := if k = 0 then nt / 256 else if k = 1 then nt % 256 else if (k - 2) % 3 = 0 then air ((k - 2) / 3) else if (k - 2) % 3 = 1 then ad ((k - 2) / 3) else act ((k - 2) / 3)
theorem picF0 {nt : Int} {air ad act : Nat → Int} {p : Nat} : picF nt air ad act (2 + 3 * p) = air p := by
  unfold picF
  rw [if_neg (by omega), if_neg (by omega), if_pos (by omega), show (2 + 3 * p - 2) / 3 = p by omega]
theorem picF1 {nt : Int} {air ad act : Nat → Int} {p : Nat} : picF nt air ad act (2 + 3 * p + 1) = ad p := by
  unfold picF
  rw [if_neg (by omega), if_neg (by omega), if_neg (by omega), if_pos (by omega), show (2 + 3 * p + 1 - 2) / 3 = p by omega]
theorem picF2 {nt : Int} {air ad act : Nat → Int} {p : Nat} : picF nt air ad act (2 + 3 * p + 2) = act p := by
  unfold picF
  rw [if_neg (by omega), if_neg (by omega), if_neg (by omega), if_neg (by omega), show (2 + 3 * p + 2 - 2) / 3 = p by omega]
def picC (f : Nat → Int) (n k : Nat) : Int := if k = 2 + 3 * n then chkN f (2 + 3 * n) else f k
theorem picF_le {nt : Int} {air ad act : Nat → Int} {n k : Nat} (h0 : 0 ≤ nt ∧ nt ≤ 999) (h : ∀ p, p < n → (0 ≤ air p ∧ air p ≤ 255) ∧ (0 ≤ ad p ∧ ad p ≤ 255) ∧ 0 ≤ act p ∧ act p ≤ 255) (hk : k < 2 + 3 * n) : 0 ≤ picF nt air ad act k ∧ picF nt air ad act k ≤ 255 := by
  unfold picF
  split
  · omega
  · split
    · omega
    · have := h ((k - 2) / 3) (by omega)
      split
      · exact this.1
      · split
        · exact this.2.1
        · exact this.2.2
theorem picF_cg {nt nt' : Int} {air air' ad ad' act act' : Nat → Int} {n k : Nat} (h0 : nt = nt') (h : ∀ p, p < n → air p = air' p ∧ ad p = ad' p ∧ act p = act' p) (hk : k < 2 + 3 * n) : picF nt air ad act k = picF nt' air' ad' act' k := by
  subst h0
  unfold picF
  split
  · rfl
  · split
    · rfl
    · have := h ((k - 2) / 3) (by omega)
      rw [this.1, this.2.1, this.2.2]
theorem picC_cg {f g : Nat → Int} {n k : Nat} (h : ∀ k, k < 2 + 3 * n → f k = g k) (hk : k < 3 + 3 * n) : picC f n k = picC g n k := by
  unfold picC
  split
  · exact chkN_cg _ h
  · exact h k (by omega)
theorem rowO_cg {σ : mM} {q o m : Nat} {f g : Nat → Int} (h : ∀ k, o ≤ k → k < o + m → f k = g k) : rowO σ q o f m = rowO σ q o g m := by
  funext q' k
  rw [rowO_app, rowO_app]
  by_cases c1 : q' = q
  · rw [if_pos c1, if_pos c1]
    by_cases c2 : o ≤ k ∧ k < o + m
    · rw [if_pos c2, if_pos c2, h k c2.1 c2.2]
    · rw [if_neg c2, if_neg c2]
  · rw [if_neg c1, if_neg c1]
section
variable {d : Nat} {σ : mM} {K : Option mV → mM → Prop}
/-- the class writes an image -/
def xPic (σ : mM) : Nat → Int := picF (σ 28 2) (σ 29) (fun p => bit (σ 28 3) p + 2 * bit (σ 28 4) p) (σ 30)
theorem x_image {n : Nat} (hF : Fix σ) (hn : σ 3 4 = (n : Int)) (hn7 : n ≤ 7) (hnt : 0 ≤ σ 28 2 ∧ σ 28 2 ≤ 999) (ha : (0 ≤ σ 28 3 ∧ σ 28 3 < 128) ∧ (0 ≤ σ 28 4 ∧ σ 28 4 < 128)) (hp : ∀ p : Nat, p < n → (0 ≤ σ 29 p ∧ σ 29 p ≤ 20) ∧ 0 ≤ σ 30 p ∧ σ 30 p ≤ 255) (hK : K (some (.inl ((3 + 3 * n : Nat) : Int))) (mj_set (rowO σ 144 0 (picC (xPic σ) n) (3 + 3 * n)) 0 12 ((3 + 3 * n : Nat) : Int))) : Mt (d + 2) 134 [.inr (.inr 0)] σ K := by
  refine Mt.go (lv := [some (.inr (.inr 0)), none, none]) rfl rfl rfl ?_
  have st : mj_set (mj_set σ 144 0 (i_shr (σ 28 2) 8)) 144 1 (i_and (σ 28 2) 255) = rowO σ 144 0 (xPic σ) 2 := by
    have f0 : i_shr (σ 28 2) 8 = xPic σ (0 + 0) := by rw [i_shr8 (by omega) (by omega)]; rfl
    have f1 : i_and (σ 28 2) 255 = xPic σ (0 + 1) := by rw [i_and255]; rfl
    have e1 := rowO_push (σ := σ) (q := 144) (o := 0) (m := 0) (f := xPic σ)
    have e2 := rowO_push (σ := σ) (q := 144) (o := 0) (m := 1) (f := xPic σ)
    rw [rowO0] at e1
    rw [f0, f1, ← e2, ← e1]
  have le : ∀ k, k < 2 + 3 * n → 0 ≤ xPic σ k ∧ xPic σ k ≤ 255 := fun k hk => picF_le hnt (fun p hpp => by
    have := hp p hpp
    have b3 := bit01 (v := σ 28 3) (p := p)
    have b4 := bit01 (v := σ 28 4) (p := p)
    refine ⟨by omega, ?_, by omega⟩
    show 0 ≤ bit (σ 28 3) p + 2 * bit (σ 28 4) p ∧ bit (σ 28 3) p + 2 * bit (σ 28 4) p ≤ 255
    omega) hk
  refine At.blk rfl rfl rfl fun sx => ?_
  simp (decide := true) only [RR, ms_app, toList_some, toList_none, if_true, if_false, true_and, and_true, cond_true, sm0, sm1, sm1l, sm2, lc_lt, lc_gt, lc_eq, Int.toNat_natCast, Int.reduceToNat, Nat.reduceAdd, Nat.reduceEqDiff, Int.reduceLT, Int.reduceEq, Int.reduceNeg, Int.reduceAdd, Int.reduceMul, Nat.reduceMul, ms_n, ms_i, ms_l, ms_p, PX, fxX hF]
  rw [st]
  have loop : ∀ m p : Nat, n - p = m → p ≤ n → At (d + 1) 134 1 [some (.inr (.inr 0)), some (.inl ((2 + 3 * p : Nat) : Int)), some (.inl (p : Int))] [] (rowO σ 144 0 (xPic σ) (2 + 3 * p)) K := by
    intro m
    induction m with
    | zero =>
      intro p hp1 hp2
      obtain rfl : p = n := by omega
      refine At.blk rfl rfl rfl fun sx => ?_
      simp (decide := true) only [RR, ms_app, toList_some, toList_none, if_true, if_false, true_and, and_true, cond_true, sm0, sm1, sm1l, sm2, lc_lt, lc_gt, lc_eq, Int.toNat_natCast, Int.reduceToNat, Nat.reduceAdd, Nat.reduceEqDiff, Int.reduceLT, Int.reduceEq, Int.reduceNeg, Int.reduceAdd, Int.reduceMul, Nat.reduceMul, ms_n, ms_i, ms_l, ms_p, PX, fxX hF, rowO_app, hn]
      rw [if_neg (by omega)]
      have hFr := fix_rowO (q := 144) (o := 0) (f := xPic σ) (m := 2 + 3 * p) hF rfl
      refine At.blk rfl rfl rfl fun sx => ?_
      simp (decide := true) only [RR, ms_app, toList_some, toList_none, if_true, if_false, true_and, and_true, cond_true, sm0, sm1, sm1l, sm2, lc_lt, lc_gt, lc_eq, Int.toNat_natCast, Int.reduceToNat, Nat.reduceAdd, Nat.reduceEqDiff, Int.reduceLT, Int.reduceEq, Int.reduceNeg, Int.reduceAdd, Int.reduceMul, Nat.reduceMul, ms_n, ms_i, ms_l, ms_p, PX, fxX hFr]
      have in144 : ∀ k, k < 2 + 3 * p → rowO σ 144 0 (xPic σ) (2 + 3 * p) 144 k = xPic σ k := fun k hk => by rw [rowO_app, if_pos rfl, if_pos (by omega)]
      refine cal_of rfl (x_checkOf144 (by omega) (fun k hk => ?_) ?_)
      · rw [in144 k hk]; exact le k hk
      · rw [chkN_cg _ in144]
        simp (decide := true) only [RR, ms_app, toList_some, toList_none, if_true, if_false, true_and, and_true, cond_true, sm0, sm1, sm1l, sm2, lc_lt, lc_gt, lc_eq, Int.toNat_natCast, Int.reduceToNat, Nat.reduceAdd, Nat.reduceEqDiff, Int.reduceLT, Int.reduceEq, Int.reduceNeg, Int.reduceAdd, Int.reduceMul, Nat.reduceMul, ms_n, ms_i, ms_l, ms_p, PX, fxX hF, rowO_app]
        rw [w32_small (by omega) (by omega)]
        refine ⟨⟨by omega, by omega⟩, ?_⟩
        have e1 := rowO_push (σ := σ) (q := 144) (o := 0) (m := 2 + 3 * p) (f := picC (xPic σ) p)
        rw [Nat.zero_add, rowO_cg (g := xPic σ) (fun k _ hk => by unfold picC; rw [if_neg (by omega)]), show picC (xPic σ) p (2 + 3 * p) = chkN (xPic σ) (2 + 3 * p) by unfold picC; rw [if_pos rfl], show 2 + 3 * p + 1 = 3 + 3 * p by omega] at e1
        rw [e1]
        rw [show ((2 + 3 * p : Nat) : Int) + 1 = ((3 + 3 * p : Nat) : Int) by omega]
        exact hK
    | succ m ih =>
      intro p hp1 hp2
      have pp := hp p (by omega)
      have b3 : i_and (i_shr (σ 28 3) (p : Int)) 1 = bit (σ 28 3) p := i_bit ha.1.1 (by omega) (by omega)
      have b4 : i_and (i_shr (σ 28 4) (p : Int)) 1 = bit (σ 28 4) p := i_bit ha.2.1 (by omega) (by omega)
      have q3 := bit01 (v := σ 28 3) (p := p)
      have q4 := bit01 (v := σ 28 4) (p := p)
      have w5 : Unit → w32 (bit (σ 28 3) p + w32 (2 * bit (σ 28 4) p)) = bit (σ 28 3) p + 2 * bit (σ 28 4) p := fun _ => by
        rw [w32_small (x := 2 * bit (σ 28 4) p) (by omega) (by omega), w32_small (by omega) (by omega)]
      have w1 : Unit → w32 (((2 + 3 * p : Nat) : Int) + 1) = ((2 + 3 * p + 1 : Nat) : Int) := fun _ => by rw [w32_small (by omega) (by omega)]; omega
      have w2 : Unit → w32 (((2 + 3 * p : Nat) : Int) + 2) = ((2 + 3 * p + 2 : Nat) : Int) := fun _ => by rw [w32_small (by omega) (by omega)]; omega
      have w3 : Unit → w32 (((2 + 3 * p : Nat) : Int) + 3) = ((2 + 3 * (p + 1) : Nat) : Int) := fun _ => by rw [w32_small (by omega) (by omega)]; omega
      have w4 : Unit → w32 ((p : Int) + 1) = ((p + 1 : Nat) : Int) := fun _ => by rw [w32_small (by omega) (by omega)]; omega
      refine At.blk rfl rfl rfl fun sx => ?_
      simp (decide := true) only [RR, ms_app, toList_some, toList_none, if_true, if_false, true_and, and_true, cond_true, sm0, sm1, sm1l, sm2, lc_lt, lc_gt, lc_eq, Int.toNat_natCast, Int.reduceToNat, Nat.reduceAdd, Nat.reduceEqDiff, Int.reduceLT, Int.reduceEq, Int.reduceNeg, Int.reduceAdd, Int.reduceMul, Nat.reduceMul, ms_n, ms_i, ms_l, ms_p, PX, fxX hF, rowO_app, hn, w1 (), w2 (), w3 (), w4 (), b3, b4, w5 ()]
      rw [if_pos (by omega)]
      refine ⟨⟨by omega, by omega⟩, ⟨by omega, by omega⟩, ⟨by omega, by omega⟩, ⟨by omega, by omega⟩, ⟨by omega, by omega⟩, ?_⟩
      have e1 := rowO_push (σ := σ) (q := 144) (o := 0) (m := 2 + 3 * p) (f := xPic σ)
      have e2 := rowO_push (σ := σ) (q := 144) (o := 0) (m := 2 + 3 * p + 1) (f := xPic σ)
      have e3 := rowO_push (σ := σ) (q := 144) (o := 0) (m := 2 + 3 * p + 2) (f := xPic σ)
      rw [Nat.zero_add] at e1 e2 e3
      have := ih (p + 1) (by omega) (by omega)
      rw [show 2 + 3 * (p + 1) = 2 + 3 * p + 2 + 1 by omega, ← e3, ← e2, ← e1, show xPic σ (2 + 3 * p) = σ 29 p from picF0, show xPic σ (2 + 3 * p + 1) = bit (σ 28 3) p + 2 * bit (σ 28 4) p from picF1, show xPic σ (2 + 3 * p + 2) = σ 30 p from picF2] at this
      rw [show 2 + 3 * (p + 1) = 2 + 3 * p + 2 + 1 by omega]
      exact this
  exact loop n 0 rfl (by omega)
end
/-- the model writes: o bytes told by f -/
def PW (σ σ' : mM) (o : Nat) (f : Nat → Int) : Prop := Fr [217] [(146, 99)] σ σ' ∧ σ' 146 99 = (o : Int) ∧ ∀ k, k < o → σ' 217 k = f k
theorem PW.push {σ σ' : mM} {o : Nat} {f : Nat → Int} {v : Int} (h : PW σ σ' o f) (e : v = f o) : PW σ (mj_set (mj_set σ' 217 o v) 146 99 ((o + 1 : Nat) : Int)) (o + 1) f := by
  obtain ⟨h1, h2, h3⟩ := h
  refine ⟨(h1.setr rfl).set rfl, rfl, fun k hk => ?_⟩
  show mj_set σ' 217 o v 217 k = f k
  rw [ms_app, if_pos rfl]
  by_cases c : k = o
  · rw [if_pos c, e, c]
  · rw [if_neg c]; exact h3 k (by omega)
def mPic (σ : mM) : Nat → Int := picF (σ 182 0) (fun p => σ 182 (1 + 4 * p)) (fun p => σ 182 (2 + 4 * p) + 2 * σ 182 (3 + 4 * p)) (fun p => if σ 182 (4 + 4 * p) < 0 then 256 + σ 182 (4 + 4 * p) else σ 182 (4 + 4 * p))
theorem mPic0 {σ : mM} {p : Nat} : σ 182 (1 + 4 * p) = mPic σ (2 + 3 * p) := by unfold mPic; rw [picF0]
theorem mPic1 {σ : mM} {p : Nat} : σ 182 (2 + 4 * p) + 2 * σ 182 (3 + 4 * p) = mPic σ (2 + 3 * p + 1) := by unfold mPic; rw [picF1]
theorem mPic2 {σ : mM} {p : Nat} : mPic σ (2 + 3 * p + 2) = (if σ 182 (4 + 4 * p) < 0 then 256 + σ 182 (4 + 4 * p) else σ 182 (4 + 4 * p)) := by unfold mPic; rw [picF2]
section
variable {d : Nat} {σ : mM} {K : Option mV → mM → Prop}
theorem m_writes {o : Nat} {v : Int} (hF : Fix σ) (ho : σ 146 99 = (o : Int)) (ho2 : o < 24) (hK : K none (mj_set (mj_set σ 217 o v) 146 99 ((o + 1 : Nat) : Int))) : Mt (d + 1) 267 [.inr (.inr 146), .inl v] σ K := by
  refine Mt.go (lv := [some (.inr (.inr 146)), some (.inl v)]) rfl rfl rfl ?_
  have w1 : Unit → w32 ((o : Int) + 1) = ((o + 1 : Nat) : Int) := fun _ => by rw [w32_small (by omega) (by omega)]; omega
  refine At.blk rfl rfl rfl fun sx => ?_
  simp (decide := true) only [RR, ms_app, toList_some, toList_none, if_true, if_false, true_and, and_true, cond_true, sm0, sm1, sm1l, sm2, lc_lt, lc_gt, lc_eq, Int.toNat_natCast, Int.reduceToNat, Nat.reduceAdd, Nat.reduceEqDiff, Int.reduceLT, Int.reduceEq, Int.reduceNeg, Int.reduceAdd, Int.reduceMul, Nat.reduceMul, ms_n, ms_i, ms_l, ms_p, PM, fxM hF, ho, w1 ()]
  exact ⟨⟨by omega, by omega⟩, hK⟩
theorem m_image {n : Nat} (hF : Fix σ) (hn : σ 173 2 = (n : Int)) (hn7 : n ≤ 7) (hnt : 0 ≤ σ 182 0 ∧ σ 182 0 ≤ 999) (hp : ∀ p : Nat, p < n → (0 ≤ σ 182 (1 + 4 * p) ∧ σ 182 (1 + 4 * p) ≤ 20) ∧ (0 ≤ σ 182 (2 + 4 * p) ∧ σ 182 (2 + 4 * p) ≤ 1) ∧ (0 ≤ σ 182 (3 + 4 * p) ∧ σ 182 (3 + 4 * p) ≤ 1) ∧ -2 ≤ σ 182 (4 + 4 * p) ∧ σ 182 (4 + 4 * p) ≤ 20) (hK : ∀ σ', PW σ σ' (3 + 3 * n) (picC (mPic σ) n) → K (some (.inl ((3 + 3 * n : Nat) : Int))) σ') : Mt (d + 2) 268 [.inr (.inr 146)] σ K := by
  refine Mt.go (lv := [some (.inr (.inr 146)), none]) rfl rfl rfl ?_
  have le : ∀ k, k < 2 + 3 * n → 0 ≤ mPic σ k ∧ mPic σ k ≤ 255 := fun k hk => picF_le hnt (fun p hpp => by
    have := hp p hpp
    refine ⟨by omega, ?_, ?_⟩
    · show 0 ≤ σ 182 (2 + 4 * p) + 2 * σ 182 (3 + 4 * p) ∧ σ 182 (2 + 4 * p) + 2 * σ 182 (3 + 4 * p) ≤ 255
      omega
    · show 0 ≤ (if σ 182 (4 + 4 * p) < 0 then 256 + σ 182 (4 + 4 * p) else σ 182 (4 + 4 * p)) ∧ (if σ 182 (4 + 4 * p) < 0 then 256 + σ 182 (4 + 4 * p) else σ 182 (4 + 4 * p)) ≤ 255
      split <;> omega) hk
  have P0 : PW σ (mj_set σ 146 99 0) 0 (mPic σ) := ⟨Fr.same.set rfl, rfl, fun k hk => by omega⟩
  have ok : okS [217] [(146, 99)] = true := rfl
  refine At.blk rfl rfl rfl fun sx => ?_
  simp (decide := true) only [RR, ms_app, toList_some, toList_none, if_true, if_false, true_and, and_true, cond_true, sm0, sm1, sm1l, sm2, lc_lt, lc_gt, lc_eq, Int.toNat_natCast, Int.reduceToNat, Nat.reduceAdd, Nat.reduceEqDiff, Int.reduceLT, Int.reduceEq, Int.reduceNeg, Int.reduceAdd, Int.reduceMul, Nat.reduceMul, ms_n, ms_i, ms_l, ms_p, PM, fxM hF]
  have w1 : Unit → w32 ((σ 182 0).tdiv 256) = mPic σ 0 := fun _ => by
    rw [Int.tdiv_eq_ediv_of_nonneg (by omega), w32_small (by omega) (by omega)]; rfl
  have w2 : (σ 182 0).tmod 256 = mPic σ 1 := by
    rw [Int.tmod_eq_emod_of_nonneg (by omega)]; rfl
  rw [w1 ()]
  refine cal_of rfl (m_writes (o := 0) (hF.set rfl) rfl (by omega) ?_)
  have P1 := P0.push (v := mPic σ 0) rfl
  revert P1
  generalize mj_set (mj_set (mj_set σ 146 99 0) 217 0 (mPic σ 0)) 146 99 ((0 + 1 : Nat) : Int) = σ1
  intro P1
  have hF1 := hF.fr P1.1 ok
  simp (decide := true) only [RR, ms_app, toList_some, toList_none, if_true, if_false, true_and, and_true, cond_true, sm0, sm1, sm1l, sm2, lc_lt, lc_gt, lc_eq, Int.toNat_natCast, Int.reduceToNat, Nat.reduceAdd, Nat.reduceEqDiff, Int.reduceLT, Int.reduceEq, Int.reduceNeg, Int.reduceAdd, Int.reduceMul, Nat.reduceMul, ms_n, ms_i, ms_l, ms_p, PM, fxM hF1, P1.1 182 0 rfl]
  rw [w2]
  refine cal_of rfl (m_writes (o := 1) hF1 P1.2.1 (by omega) ?_)
  have P2 := P1.push (v := mPic σ 1) rfl
  revert P2
  generalize mj_set (mj_set σ1 217 (0 + 1) (mPic σ 1)) 146 99 ((0 + 1 + 1 : Nat) : Int) = σ2
  intro P2
  simp (decide := true) only [RR, ms_app, toList_some, toList_none, if_true, if_false, true_and, and_true, cond_true, sm0, sm1, sm1l, sm2, lc_lt, lc_gt, lc_eq, Int.toNat_natCast, Int.reduceToNat, Nat.reduceAdd, Nat.reduceEqDiff, Int.reduceLT, Int.reduceEq, Int.reduceNeg, Int.reduceAdd, Int.reduceMul, Nat.reduceMul, ms_n, ms_i, ms_l, ms_p, PM]
  have loop : ∀ m p : Nat, n - p = m → p ≤ n → ∀ σ2, PW σ σ2 (2 + 3 * p) (mPic σ) → At (d + 1) 268 1 [some (.inr (.inr 146)), some (.inl (p : Int))] [] σ2 K := by
    intro m
    induction m with
    | zero =>
      intro p hp1 hp2 σ2 P
      obtain rfl : p = n := by omega
      have hF2 := hF.fr P.1 ok
      have n2 : σ2 173 2 = (p : Int) := (P.1 173 2 rfl).trans hn
      refine At.blk rfl rfl rfl fun sx => ?_
      simp (decide := true) only [RR, ms_app, toList_some, toList_none, if_true, if_false, true_and, and_true, cond_true, sm0, sm1, sm1l, sm2, lc_lt, lc_gt, lc_eq, Int.toNat_natCast, Int.reduceToNat, Nat.reduceAdd, Nat.reduceEqDiff, Int.reduceLT, Int.reduceEq, Int.reduceNeg, Int.reduceAdd, Int.reduceMul, Nat.reduceMul, ms_n, ms_i, ms_l, ms_p, PM, fxM hF2]
      refine cal_of rfl (m_partMany hF2 ?_)
      simp (decide := true) only [RR, ms_app, toList_some, toList_none, if_true, if_false, true_and, and_true, cond_true, sm0, sm1, sm1l, sm2, lc_lt, lc_gt, lc_eq, Int.toNat_natCast, Int.reduceToNat, Nat.reduceAdd, Nat.reduceEqDiff, Int.reduceLT, Int.reduceEq, Int.reduceNeg, Int.reduceAdd, Int.reduceMul, Nat.reduceMul, ms_n, ms_i, ms_l, ms_p, PM, n2]
      rw [if_neg (by omega)]
      refine At.blk rfl rfl rfl fun sx => ?_
      simp (decide := true) only [RR, ms_app, toList_some, toList_none, if_true, if_false, true_and, and_true, cond_true, sm0, sm1, sm1l, sm2, lc_lt, lc_gt, lc_eq, Int.toNat_natCast, Int.reduceToNat, Nat.reduceAdd, Nat.reduceEqDiff, Int.reduceLT, Int.reduceEq, Int.reduceNeg, Int.reduceAdd, Int.reduceMul, Nat.reduceMul, ms_n, ms_i, ms_l, ms_p, PM, fxM hF2, P.2.1]
      refine cal_of rfl (m_checked217 (by omega) (fun k hk => ?_) ?_)
      · rw [P.2.2 k hk]; exact le k hk
      · rw [chkN_cg _ P.2.2]
        simp (decide := true) only [RR, ms_app, toList_some, toList_none, if_true, if_false, true_and, and_true, cond_true, sm0, sm1, sm1l, sm2, lc_lt, lc_gt, lc_eq, Int.toNat_natCast, Int.reduceToNat, Nat.reduceAdd, Nat.reduceEqDiff, Int.reduceLT, Int.reduceEq, Int.reduceNeg, Int.reduceAdd, Int.reduceMul, Nat.reduceMul, ms_n, ms_i, ms_l, ms_p, PM]
        refine cal_of rfl (m_writes (o := 2 + 3 * p) hF2 P.2.1 (by omega) ?_)
        have Q : PW σ (mj_set (mj_set σ2 217 (2 + 3 * p) (chkN (mPic σ) (2 + 3 * p))) 146 99 ((2 + 3 * p + 1 : Nat) : Int)) (2 + 3 * p + 1) (picC (mPic σ) p) := by
          have P' : PW σ σ2 (2 + 3 * p) (picC (mPic σ) p) := ⟨P.1, P.2.1, fun k hk => by rw [P.2.2 k hk]; unfold picC; rw [if_neg (by omega)]⟩
          exact P'.push (by unfold picC; rw [if_pos rfl])
        revert Q
        generalize mj_set (mj_set σ2 217 (2 + 3 * p) (chkN (mPic σ) (2 + 3 * p))) 146 99 ((2 + 3 * p + 1 : Nat) : Int) = σ3
        intro Q
        rw [show 2 + 3 * p + 1 = 3 + 3 * p by omega] at Q
        simp (decide := true) only [RR, ms_app, toList_some, toList_none, if_true, if_false, true_and, and_true, cond_true, sm0, sm1, sm1l, sm2, lc_lt, lc_gt, lc_eq, Int.toNat_natCast, Int.reduceToNat, Nat.reduceAdd, Nat.reduceEqDiff, Int.reduceLT, Int.reduceEq, Int.reduceNeg, Int.reduceAdd, Int.reduceMul, Nat.reduceMul, ms_n, ms_i, ms_l, ms_p, PM, fxM (hF.fr Q.1 ok), Q.2.1]
        exact hK σ3 Q
    | succ m ih =>
      intro p hp1 hp2 σ2 P
      have pp := hp p (by omega)
      have hF2 := hF.fr P.1 ok
      have n2 : σ2 173 2 = (n : Int) := (P.1 173 2 rfl).trans hn
      have i1 : Unit → w32 (4 * (p : Int)) = ((4 * p : Nat) : Int) := fun _ => by rw [w32_small (by omega) (by omega)]; omega
      have i2 : Unit → w32 (2 + ((4 * p : Nat) : Int)) = ((2 + 4 * p : Nat) : Int) := fun _ => by rw [w32_small (by omega) (by omega)]; omega
      have i3 : Unit → w32 (3 + ((4 * p : Nat) : Int)) = ((3 + 4 * p : Nat) : Int) := fun _ => by rw [w32_small (by omega) (by omega)]; omega
      have i4 : Unit → w32 ((p : Int) + 1) = ((p + 1 : Nat) : Int) := fun _ => by rw [w32_small (by omega) (by omega)]; omega
      refine At.blk rfl rfl rfl fun sx => ?_
      simp (decide := true) only [RR, ms_app, toList_some, toList_none, if_true, if_false, true_and, and_true, cond_true, sm0, sm1, sm1l, sm2, lc_lt, lc_gt, lc_eq, Int.toNat_natCast, Int.reduceToNat, Nat.reduceAdd, Nat.reduceEqDiff, Int.reduceLT, Int.reduceEq, Int.reduceNeg, Int.reduceAdd, Int.reduceMul, Nat.reduceMul, ms_n, ms_i, ms_l, ms_p, PM, fxM hF2]
      refine cal_of rfl (m_partMany hF2 ?_)
      simp (decide := true) only [RR, ms_app, toList_some, toList_none, if_true, if_false, true_and, and_true, cond_true, sm0, sm1, sm1l, sm2, lc_lt, lc_gt, lc_eq, Int.toNat_natCast, Int.reduceToNat, Nat.reduceAdd, Nat.reduceEqDiff, Int.reduceLT, Int.reduceEq, Int.reduceNeg, Int.reduceAdd, Int.reduceMul, Nat.reduceMul, ms_n, ms_i, ms_l, ms_p, PM, n2]
      rw [if_pos (by omega)]
      refine cal_of rfl (m_airOf hF2 (by omega) ?_)
      rw [Int.toNat_natCast, P.1 182 _ rfl]
      simp (decide := true) only [RR, ms_app, toList_some, toList_none, if_true, if_false, true_and, and_true, cond_true, sm0, sm1, sm1l, sm2, lc_lt, lc_gt, lc_eq, Int.toNat_natCast, Int.reduceToNat, Nat.reduceAdd, Nat.reduceEqDiff, Int.reduceLT, Int.reduceEq, Int.reduceNeg, Int.reduceAdd, Int.reduceMul, Nat.reduceMul, ms_n, ms_i, ms_l, ms_p, PM]
      refine cal_of rfl (m_writes hF2 P.2.1 (by omega) ?_)
      have P1 := P.push (v := σ 182 (1 + 4 * p)) mPic0
      revert P1
      generalize mj_set (mj_set σ2 217 (2 + 3 * p) (σ 182 (1 + 4 * p))) 146 99 ((2 + 3 * p + 1 : Nat) : Int) = σ3
      intro P1
      have hF3 := hF.fr P1.1 ok
      simp (decide := true) only [RR, ms_app, toList_some, toList_none, if_true, if_false, true_and, and_true, cond_true, sm0, sm1, sm1l, sm2, lc_lt, lc_gt, lc_eq, Int.toNat_natCast, Int.reduceToNat, Nat.reduceAdd, Nat.reduceEqDiff, Int.reduceLT, Int.reduceEq, Int.reduceNeg, Int.reduceAdd, Int.reduceMul, Nat.reduceMul, ms_n, ms_i, ms_l, ms_p, PM, fxM hF3, i1 (), i2 (), i3 ()]
      rw [P1.1 182 _ rfl, P1.1 182 _ rfl]
      refine ⟨⟨by omega, by omega⟩, ⟨by omega, by omega⟩, ?_⟩
      rw [w32_small (x := 2 * σ 182 (3 + 4 * p)) (by omega) (by omega), w32_small (x := σ 182 (2 + 4 * p) + 2 * σ 182 (3 + 4 * p)) (by omega) (by omega)]
      refine cal_of rfl (m_writes hF3 P1.2.1 (by omega) ?_)
      have P2 := P1.push (v := σ 182 (2 + 4 * p) + 2 * σ 182 (3 + 4 * p)) mPic1
      revert P2
      generalize mj_set (mj_set σ3 217 (2 + 3 * p + 1) (σ 182 (2 + 4 * p) + 2 * σ 182 (3 + 4 * p))) 146 99 ((2 + 3 * p + 1 + 1 : Nat) : Int) = σ4
      intro P2
      have hF4 := hF.fr P2.1 ok
      have fin : ∀ v, v = mPic σ (2 + 3 * p + 2) → At (d + 1) 268 3 [some (.inr (.inr 146)), some (.inl (p : Int))] [.inl v, .inr (.inr 146)] σ4 K := by
        intro v hv
        refine At.blk rfl rfl rfl fun sx => ?_
        simp (decide := true) only [RR, ms_app, toList_some, toList_none, if_true, if_false, true_and, and_true, cond_true, sm0, sm1, sm1l, sm2, lc_lt, lc_gt, lc_eq, Int.toNat_natCast, Int.reduceToNat, Nat.reduceAdd, Nat.reduceEqDiff, Int.reduceLT, Int.reduceEq, Int.reduceNeg, Int.reduceAdd, Int.reduceMul, Nat.reduceMul, ms_n, ms_i, ms_l, ms_p, PM, fxM hF4]
        refine cal_of rfl (m_writes hF4 P2.2.1 (by omega) ?_)
        have P3 := P2.push (v := v) hv
        revert P3
        generalize mj_set (mj_set σ4 217 (2 + 3 * p + 1 + 1) v) 146 99 ((2 + 3 * p + 1 + 1 + 1 : Nat) : Int) = σ5
        intro P3
        simp (decide := true) only [RR, ms_app, toList_some, toList_none, if_true, if_false, true_and, and_true, cond_true, sm0, sm1, sm1l, sm2, lc_lt, lc_gt, lc_eq, Int.toNat_natCast, Int.reduceToNat, Nat.reduceAdd, Nat.reduceEqDiff, Int.reduceLT, Int.reduceEq, Int.reduceNeg, Int.reduceAdd, Int.reduceMul, Nat.reduceMul, ms_n, ms_i, ms_l, ms_p, PM, i4 ()]
        exact ih (p + 1) (by omega) (by omega) σ5 (by rw [show 2 + 3 * (p + 1) = 2 + 3 * p + 1 + 1 + 1 by omega]; exact P3)
      simp (decide := true) only [RR, ms_app, toList_some, toList_none, if_true, if_false, true_and, and_true, cond_true, sm0, sm1, sm1l, sm2, lc_lt, lc_gt, lc_eq, Int.toNat_natCast, Int.reduceToNat, Nat.reduceAdd, Nat.reduceEqDiff, Int.reduceLT, Int.reduceEq, Int.reduceNeg, Int.reduceAdd, Int.reduceMul, Nat.reduceMul, ms_n, ms_i, ms_l, ms_p, PM, fxM hF4]
      refine cal_of rfl (m_actOf hF4 (by omega) ?_)
      rw [Int.toNat_natCast, P2.1 182 _ rfl]
      simp (decide := true) only [RR, ms_app, toList_some, toList_none, if_true, if_false, true_and, and_true, cond_true, sm0, sm1, sm1l, sm2, lc_lt, lc_gt, lc_eq, Int.toNat_natCast, Int.reduceToNat, Nat.reduceAdd, Nat.reduceEqDiff, Int.reduceLT, Int.reduceEq, Int.reduceNeg, Int.reduceAdd, Int.reduceMul, Nat.reduceMul, ms_n, ms_i, ms_l, ms_p, PM]
      have e2 : mPic σ (2 + 3 * p + 2) = if σ 182 (4 + 4 * p) < 0 then 256 + σ 182 (4 + 4 * p) else σ 182 (4 + 4 * p) := mPic2
      by_cases hc : σ 182 (4 + 4 * p) < 0
      · rw [if_pos hc]
        refine cal_of rfl (m_actOf hF4 (by omega) ?_)
        rw [Int.toNat_natCast, P2.1 182 _ rfl]
        simp (decide := true) only [RR, ms_app, toList_some, toList_none, if_true, if_false, true_and, and_true, cond_true, sm0, sm1, sm1l, sm2, lc_lt, lc_gt, lc_eq, Int.toNat_natCast, Int.reduceToNat, Nat.reduceAdd, Nat.reduceEqDiff, Int.reduceLT, Int.reduceEq, Int.reduceNeg, Int.reduceAdd, Int.reduceMul, Nat.reduceMul, ms_n, ms_i, ms_l, ms_p, PM]
        rw [w32_small (by omega) (by omega)]
        exact fin _ (by rw [e2, if_pos hc])
      · rw [if_neg hc]
        refine At.blk rfl rfl rfl fun sx => ?_
        simp (decide := true) only [RR, ms_app, toList_some, toList_none, if_true, if_false, true_and, and_true, cond_true, sm0, sm1, sm1l, sm2, lc_lt, lc_gt, lc_eq, Int.toNat_natCast, Int.reduceToNat, Nat.reduceAdd, Nat.reduceEqDiff, Int.reduceLT, Int.reduceEq, Int.reduceNeg, Int.reduceAdd, Int.reduceMul, Nat.reduceMul, ms_n, ms_i, ms_l, ms_p, PM]
        refine cal_of rfl (m_actOf hF4 (by omega) ?_)
        rw [Int.toNat_natCast, P2.1 182 _ rfl]
        simp (decide := true) only [RR, ms_app, toList_some, toList_none, if_true, if_false, true_and, and_true, cond_true, sm0, sm1, sm1l, sm2, lc_lt, lc_gt, lc_eq, Int.toNat_natCast, Int.reduceToNat, Nat.reduceAdd, Nat.reduceEqDiff, Int.reduceLT, Int.reduceEq, Int.reduceNeg, Int.reduceAdd, Int.reduceMul, Nat.reduceMul, ms_n, ms_i, ms_l, ms_p, PM]
        exact fin _ (by rw [e2, if_neg hc])
  exact loop n 0 rfl (by omega) σ2 P2
end
theorem p_image {σ : mM} (h : Inv σ) : PairI Inv 134 268 [] σ := by
  have hF := h.1
  obtain ⟨m1, m2, m3⟩ := h.many
  obtain ⟨n, hn⟩ := Int.eq_ofNat_of_zero_le m2
  have hN : SkyR σ 28 182 0 := h.2.2.2.2.2.2.2.2.1
  obtain ⟨n1, n2, n3, n4, n5⟩ := hN
  have q := pw7 n (by omega)
  rw [hn, Int.toNat_natCast] at n3 n4
  have hp : ∀ p : Nat, p < n → _ := fun p hp => n5 p (by omega)
  have hact : ∀ c m : Int, ActR c m → (0 ≤ c ∧ c ≤ 255) ∧ (-2 ≤ m ∧ m ≤ 20) ∧ c = (if m < 0 then 256 + m else m) := by
    intro c m h
    unfold ActR at h
    split <;> omega
  have nt : σ 182 0 = σ 28 2 := n1
  refine x_image hF hn (by omega) n2 ⟨by omega, by omega⟩ (fun p hpp => ?_) ?_
  · have := hp p hpp
    exact ⟨this.1.2, (hact _ _ this.2.2.2).1⟩
  · refine ⟨_, rfl, ?_⟩
    generalize hσ : mj_set (rowO σ 144 0 (picC (xPic σ) n) (3 + 3 * n)) 0 12 ((3 + 3 * n : Nat) : Int) = σ1
    have f1 : Fr [144] [(0, 12)] σ σ1 := by
      rw [← hσ]
      refine Fr.set ?_ rfl
      intro a b hab
      rw [rowO_app]
      by_cases c : a = 144
      · subst c; exact absurd hab (by simp)
      · rw [if_neg c]
    have hF1 := hF.fr f1 rfl
    have eM : mPic σ1 = mPic σ := by unfold mPic; rw [f1.row 182 rfl]
    refine m_image hF1 (by rw [f1 173 2 rfl]; omega) (by omega) (by rw [f1 182 0 rfl]; omega) (fun p hpp => ?_) (fun σ' P => ⟨rfl, ?_⟩)
    · rw [f1.row 182 rfl]
      have := hp p hpp
      have a := hact _ _ this.2.2.2
      simp only [Nat.zero_add] at this a
      rw [this.2.1, this.2.2.1]
      have b3 := bit01 (v := σ 28 3) (p := p)
      have b4 := bit01 (v := σ 28 4) (p := p)
      exact ⟨by omega, by omega, by omega, a.2.1⟩
    · have f2 : Fr [144, 217] [(0, 12), (146, 99)] σ σ' := (f1.mono rfl).trans (P.1.mono rfl)
      obtain ⟨hF, hT, hR, hf, hZ, hP, hS, hC, hN, hk2, hU, hth⟩ := h
      have f := f2
      refine ⟨hF.fr f rfl, hT.cg (f 146 1 rfl) (f 1 1 rfl) (f.row 147 rfl) (f.row 2 rfl), hR.cg (f.row 148 rfl) (f.row 145 rfl), hf.cg (f 146 7 rfl) (f 19 2 rfl) (f 146 8 rfl) (f 19 3 rfl), hZ.cg (f 146 67 rfl) (f 0 13 rfl), ?_, hS.cg (f 146 58 rfl) (f 31 1 rfl) (f.row 189 rfl) (f.row 32 rfl) (f 3 4 rfl), hC.cg (f.row 173 rfl) (f.row 3 rfl) (f.row 178 rfl) (f.row 4 rfl) (f.row 174 rfl) (f.row 176 rfl) (f.row 6 rfl) (f.row 9 rfl) (f.row 10 rfl) (f.row 8 rfl) (f.row 179 rfl) (f.row 180 rfl) (f.row 181 rfl), hN.cg (f.row 182 rfl) (f.row 28 rfl) (f.row 29 rfl) (f.row 30 rfl) (f 3 4 rfl), hk2.cg (f.row 182 rfl) (f.row 39 rfl) (f.row 40 rfl), hU.cg (f 146 65 rfl) (f 41 3 rfl) (f 146 66 rfl) (f 41 2 rfl) (f 3 4 rfl) (f.row 193 rfl) (fun q h1 h2 => f.hist rfl rfl h1 h2), by rw [f 146 53 rfl]; exact hth⟩
      have e12 : σ' 0 12 = ((3 + 3 * n : Nat) : Int) := by rw [P.1 0 12 rfl, ← hσ]; rfl
      refine ⟨by rw [e12, P.2.1], by rw [e12]; omega, fun k hk => ?_⟩
      rw [e12] at hk
      rw [P.2.2 k (by omega), P.1.row 144 rfl, eM, ← hσ, ms_row (by decide), rowO_app, if_pos rfl, if_pos (by omega)]
      refine picC_cg (fun k hk => ?_) (by omega)
      refine picF_cg nt (fun p hpp => ?_) hk
      have := hp p hpp
      have a := hact _ _ this.2.2.2
      simp only [Nat.zero_add] at this a
      exact ⟨this.1.1, by rw [this.2.1, this.2.2.1], a.2.2.symm⟩
