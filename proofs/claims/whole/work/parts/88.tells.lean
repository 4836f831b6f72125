/-! tells -/
def mxN (f : Nat → Int) : Nat → Int
  | 0 => 0
  | k + 1 => if mxN f k < f k then f k else mxN f k
theorem mxN_s {f : Nat → Int} {k : Nat} : mxN f (k + 1) = if mxN f k < f k then f k else mxN f k := rfl
theorem mxN_le {f : Nat → Int} : ∀ n, 0 ≤ mxN f n ∧ ∀ a, a < n → f a ≤ mxN f n
  | 0 => ⟨by show (0 : Int) ≤ 0; omega, fun a h => absurd h (by omega)⟩
  | n + 1 => by
    obtain ⟨h1, h2⟩ := mxN_le (f := f) n
    rw [mxN_s]
    by_cases e : mxN f n < f n
    · rw [if_pos e]
      refine ⟨by omega, fun a ha => ?_⟩
      by_cases e2 : a = n
      · rw [e2]; omega
      · have := h2 a (by omega); omega
    · rw [if_neg e]
      refine ⟨h1, fun a ha => ?_⟩
      by_cases e2 : a = n
      · rw [e2]; omega
      · exact h2 a (by omega)
theorem mxN_cg {f g : Nat → Int} : ∀ n, (∀ a, a < n → f a = g a) → mxN f n = mxN g n
  | 0, _ => rfl
  | n + 1, h => by rw [mxN_s, mxN_s, mxN_cg n (fun a ha => h a (by omega)), h n (by omega)]
/-- one number has grown -/
theorem mxN_up {f g : Nat → Int} {b : Nat} (hb : g b = f b + 1) (ho : ∀ a, a ≠ b → g a = f a) : ∀ n, mxN g n = if b < n then (if mxN f n < g b then g b else mxN f n) else mxN f n
  | 0 => by rw [if_neg (by omega)]; rfl
  | n + 1 => by
    have ih := mxN_up hb ho n
    have h1 := (mxN_le (f := f) n).2
    rw [mxN_s, mxN_s, ih]
    by_cases e : b = n
    · subst e
      rw [if_neg (Nat.lt_irrefl b), if_pos (Nat.lt_succ_self b)]
      repeat' split
      all_goals omega
    · rw [ho n (Ne.symm e)]
      have h2 : b < n → f b ≤ mxN f n := h1 b
      repeat' split
      all_goals omega
theorem mxN_zero {f : Nat → Int} : ∀ n, (∀ a, a < n → f a = 0) → mxN f n = 0
  | 0, _ => rfl
  | n + 1, h => by
    rw [mxN_s, mxN_zero n (fun a ha => h a (by omega)), h n (by omega)]
    rfl
noncomputable def cntI (C : Ct) (w : Sk) (S : Sn) (p k : Nat) (a : Int) (v : Nat) : Int := if fitB C w S p v = true ∧ (ntM C (airW w p (v : Int)) k).2.1 p = a then 1 else 0
noncomputable def cntA (C : Ct) (w : Sk) (S : Sn) (p k m a : Nat) : Int := sumN (cntI C w S p k (a : Int)) m
theorem cntI_le {C : Ct} {w : Sk} {S : Sn} {p k v : Nat} {a : Int} : 0 ≤ cntI C w S p k a v ∧ cntI C w S p k a v ≤ 1 := by unfold cntI; split <;> omega
theorem cntA_le {C : Ct} {w : Sk} {S : Sn} {p k m a : Nat} : 0 ≤ cntA C w S p k m a ∧ cntA C w S p k m a ≤ m := by
  have := sumN_le (f := cntI C w S p k (a : Int)) (c := 1) m (fun j _ => cntI_le)
  unfold cntA; omega
theorem cntA_s {C : Ct} {w : Sk} {S : Sn} {p k m a : Nat} : cntA C w S p k (m + 1) a = cntA C w S p k m a + cntI C w S p k (a : Int) m := rfl
noncomputable def mosT (C : Ct) (w : Sk) (S : Sn) (p k : Nat) : Int := mxN (cntA C w S p k 21) 21
noncomputable def telB (C : Ct) (w : Sk) (S : Sn) (p : Nat) : Nat → Int × Int
  | 0 => (-1, -1)
  | k + 1 => if (telB C w S p k).1 = -1 ∨ mosT C w S p (k + 1) < (telB C w S p k).2 then (((k + 1 : Nat) : Int), mosT C w S p (k + 1)) else telB C w S p k
theorem telB_s {C : Ct} {w : Sk} {S : Sn} {p k : Nat} : telB C w S p (k + 1) = if (telB C w S p k).1 = -1 ∨ mosT C w S p (k + 1) < (telB C w S p k).2 then (((k + 1 : Nat) : Int), mosT C w S p (k + 1)) else telB C w S p k := rfl
theorem telB_n {C : Ct} {w : Sk} {S : Sn} {p : Nat} : ∀ k, (k = 0 ∧ telB C w S p k = (-1, -1)) ∨ (0 < k ∧ 1 ≤ (telB C w S p k).1)
  | 0 => Or.inl ⟨rfl, rfl⟩
  | k + 1 => by
    refine Or.inr ⟨by omega, ?_⟩
    rw [telB_s]
    split
    · show (1 : Int) ≤ ((k + 1 : Nat) : Int); omega
    · rename_i h
      rcases telB_n (C := C) (w := w) (S := S) (p := p) k with ⟨h1, h2⟩ | ⟨h1, h2⟩
      · exact absurd (Or.inl (by rw [h2])) h
      · exact h2
noncomputable def telL (C : Ct) (w : Sk) (S : Sn) (p : Nat) : Nat := if bitsN (fitB C w S p) 21 = 0 then 0 else lstN w 30
def telV (C : Ct) (w : Sk) (S : Sn) (a b : Int) : Int → Prop := fun v => ((0 ≤ a ∧ a < C.1) ∧ (0 ≤ b ∧ b ≤ 1) → v = if b = 0 then (telB C w S a.toNat (telL C w S a.toNat)).1 else (telB C w S a.toNat (telL C w S a.toNat)).2) ∧ (¬((0 ≤ a ∧ a < C.1) ∧ (0 ≤ b ∧ b ≤ 1)) → v = -1)
theorem telV_uniq {C : Ct} {w : Sk} {S : Sn} {a b : Int} (u v : Int) (h : telV C w S a b u) (h2 : telV C w S a b v) : u = v := by
  by_cases e : (0 ≤ a ∧ a < C.1) ∧ (0 ≤ b ∧ b ≤ 1)
  · rw [h.1 e, h2.1 e]
  · rw [h.2 e, h2.2 e]
theorem lstN_le {w : Sk} {L : Int} (h : 0 ≤ w.1 ∧ w.1 ≤ 999) (hL : 0 ≤ L) : w.1 + lstN w L ≤ 999 ∧ (lstN w L : Int) ≤ L ∧ ((lstN w L : Int) = L ∨ w.1 + lstN w L = 999) ∧ (if 999 - w.1 < L then 999 - w.1 else L) = ((lstN w L : Nat) : Int) := by
  unfold lstN
  split <;> omega
section
variable {d : Nat} {σ σ0 : mM} {K : Option mV → mM → Prop} {C : Ct} {w : Sk} {l : Kp} {S : Sn}
theorem x_fill38 (hK : ∀ σ', Fr [38] [] σ σ' → (∀ k, k < 630 → σ' 38 k = 0) → K none σ') : Mt (d + 1) 280 [.inr (.inr 38), .inl 0] σ K := by
  refine Mt.go (lv := [some (.inr (.inr 38)), some (.inl 0), none, none]) rfl rfl rfl ?_
  refine At.blk rfl rfl rfl fun sx => ?_
  simp (decide := true) only [RR, ms_app, toList_some, toList_none, if_true, if_false, true_and, and_true, cond_true, sm0, sm1, sm1l, sm2, lc_lt, lc_gt, lc_eq, Int.toNat_natCast, Int.reduceToNat, Nat.reduceAdd, Nat.reduceEqDiff, Int.reduceLT, Int.reduceEq, Int.reduceNeg, Int.reduceAdd, Int.reduceMul, Nat.reduceMul, ms_n, ms_i, ms_l, ms_p, PX]
  have loop : ∀ m k : Nat, 630 - k = m → k ≤ 630 → ∀ σ', Fr [38] [] σ σ' → (∀ j, j < k → σ' 38 j = 0) → At d 280 1 [some (.inr (.inr 38)), some (.inl 0), some (.inl (k : Int)), some (.inl 630)] [] σ' K := by
    intro m
    induction m with
    | zero =>
      intro k hk hk2 σ' fr h
      obtain rfl : k = 630 := by omega
      refine At.blk rfl rfl rfl fun sx => ?_
      simp (decide := true) only [RR, ms_app, toList_some, toList_none, if_true, if_false, true_and, and_true, cond_true, sm0, sm1, sm1l, sm2, lc_lt, lc_gt, lc_eq, Int.toNat_natCast, Int.reduceToNat, Nat.reduceAdd, Nat.reduceEqDiff, Int.reduceLT, Int.reduceEq, Int.reduceNeg, Int.reduceAdd, Int.reduceMul, Nat.reduceMul, ms_n, ms_i, ms_l, ms_p, PX]
      refine At.blk rfl rfl rfl fun sx => ?_
      simp (decide := true) only [RR, ms_app, toList_some, toList_none, if_true, if_false, true_and, and_true, cond_true, sm0, sm1, sm1l, sm2, lc_lt, lc_gt, lc_eq, Int.toNat_natCast, Int.reduceToNat, Nat.reduceAdd, Nat.reduceEqDiff, Int.reduceLT, Int.reduceEq, Int.reduceNeg, Int.reduceAdd, Int.reduceMul, Nat.reduceMul, ms_n, ms_i, ms_l, ms_p, PX]
      exact hK σ' fr h
    | succ m ih =>
      intro k hk hk2 σ' fr h
      have w1 : Unit → w32 ((k : Int) + 1) = ((k + 1 : Nat) : Int) := fun _ => by rw [w32_small (by omega) (by omega)]; omega
      refine At.blk rfl rfl rfl fun sx => ?_
      simp (decide := true) only [RR, ms_app, toList_some, toList_none, if_true, if_false, true_and, and_true, cond_true, sm0, sm1, sm1l, sm2, lc_lt, lc_gt, lc_eq, Int.toNat_natCast, Int.reduceToNat, Nat.reduceAdd, Nat.reduceEqDiff, Int.reduceLT, Int.reduceEq, Int.reduceNeg, Int.reduceAdd, Int.reduceMul, Nat.reduceMul, ms_n, ms_i, ms_l, ms_p, PX, w1 ()]
      rw [if_pos (by omega)]
      refine ⟨⟨by omega, by omega⟩, ?_⟩
      refine ih (k + 1) (by omega) (by omega) _ (fr.setr rfl) (fun j hj => ?_)
      rw [ms_app, if_pos rfl]
      by_cases e : j = k
      · rw [if_pos e]
      · rw [if_neg e]; exact h j (by omega)
  exact loop 630 0 rfl (by omega) σ Fr.same (fun j h => absurd h (by omega))
theorem x_tallyAirs {p L : Nat} (hF : Fix σ) (hC : CtV C) (hp : p < C.1) (hcx : CtX σ C) (hw : SkV C w) (hsx : SkX σ 28 C w) (hL : L ≤ 30) (h9 : w.1 + L ≤ 999) (hK : ∀ σ', Fr xrL xrT σ σ' → σ' 33 7 = σ 33 7 → σ' 33 8 = σ 33 8 → (∀ k, k < L → ∀ a, a < 21 → σ' 38 (k * 21 + a) = cntA C w S p (k + 1) 21 a) → K none σ') : Mt (d + 5) 31 [.inr (.inr 33), .inl (p : Int), .inl ((bitsN (fitB C w S p) 21 : Nat) : Int), .inl (L : Int)] σ K := by
  have hb := bitsN_lt (fitB C w S p) 21
  have eb : ∀ v : Nat, v < 21 → i_and (i_shr ((bitsN (fitB C w S p) 21 : Nat) : Int) (v : Int)) 1 = if fitB C w S p v = true then 1 else 0 := fun v hv => by
    rw [i_bit (by omega) (by omega) (by omega), Int.toNat_natCast, bitsN_bit 21 hv]
  generalize ((bitsN (fitB C w S p) 21 : Nat) : Int) = B at *
  refine Mt.go (lv := [some (.inr (.inr 33)), some (.inl (p : Int)), some (.inl B), some (.inl (L : Int)), none, none]) rfl rfl rfl ?_
  have n7 := hC.1
  refine At.blk rfl rfl rfl fun sx => ?_
  simp (decide := true) only [RR, ms_app, toList_some, toList_none, if_true, if_false, true_and, and_true, cond_true, sm0, sm1, sm1l, sm2, lc_lt, lc_gt, lc_eq, Int.toNat_natCast, Int.reduceToNat, Nat.reduceAdd, Nat.reduceEqDiff, Int.reduceLT, Int.reduceEq, Int.reduceNeg, Int.reduceAdd, Int.reduceMul, Nat.reduceMul, ms_n, ms_i, ms_l, ms_p, PX, fxX hF]
  refine cal_of rfl (x_fill38 (fun σ1 f1 h1 => ?_))
  simp (decide := true) only [RR, ms_app, toList_some, toList_none, if_true, if_false, true_and, and_true, cond_true, sm0, sm1, sm1l, sm2, lc_lt, lc_gt, lc_eq, Int.toNat_natCast, Int.reduceToNat, Nat.reduceAdd, Nat.reduceEqDiff, Int.reduceLT, Int.reduceEq, Int.reduceNeg, Int.reduceAdd, Int.reduceMul, Nat.reduceMul, ms_n, ms_i, ms_l, ms_p, PX]
  have loop : ∀ m v : Nat, 21 - v = m → v ≤ 21 → ∀ (σ' : mM) (o5 : Option mV), Fr xrL xrT σ σ' → σ' 33 7 = σ 33 7 → σ' 33 8 = σ 33 8 → (∀ k, k < L → ∀ a, a < 21 → σ' 38 (k * 21 + a) = cntA C w S p (k + 1) v a) → At (d + 4) 31 1 [some (.inr (.inr 33)), some (.inl (p : Int)), some (.inl B), some (.inl (L : Int)), some (.inl (v : Int)), o5] [] σ' K := by
    intro m
    induction m with
    | zero =>
      intro v hv hv2 σ' o5 fr g7 g8 ht
      obtain rfl : v = 21 := by omega
      refine At.blk rfl rfl rfl fun sx => ?_
      simp (decide := true) only [RR, ms_app, toList_some, toList_none, if_true, if_false, true_and, and_true, cond_true, sm0, sm1, sm1l, sm2, lc_lt, lc_gt, lc_eq, Int.toNat_natCast, Int.reduceToNat, Nat.reduceAdd, Nat.reduceEqDiff, Int.reduceLT, Int.reduceEq, Int.reduceNeg, Int.reduceAdd, Int.reduceMul, Nat.reduceMul, ms_n, ms_i, ms_l, ms_p, PX]
      refine At.blk rfl rfl rfl fun sx => ?_
      simp (decide := true) only [RR, ms_app, toList_some, toList_none, if_true, if_false, true_and, and_true, cond_true, sm0, sm1, sm1l, sm2, lc_lt, lc_gt, lc_eq, Int.toNat_natCast, Int.reduceToNat, Nat.reduceAdd, Nat.reduceEqDiff, Int.reduceLT, Int.reduceEq, Int.reduceNeg, Int.reduceAdd, Int.reduceMul, Nat.reduceMul, ms_n, ms_i, ms_l, ms_p, PX]
      exact hK σ' fr g7 g8 ht
    | succ m ih =>
      intro v hv hv2 σ' o5 fr g7 g8 ht
      have hF' := hF.fr fr rfl
      have w1 : Unit → w32 ((v : Int) + 1) = ((v + 1 : Nat) : Int) := fun _ => by rw [w32_small (by omega) (by omega)]; omega
      have three : ∀ (σ' : mM) (o5 : Option mV), Fr xrL xrT σ σ' → σ' 33 7 = σ 33 7 → σ' 33 8 = σ 33 8 → (∀ k, k < L → ∀ a, a < 21 → σ' 38 (k * 21 + a) = cntA C w S p (k + 1) (v + 1) a) → At (d + 4) 31 3 [some (.inr (.inr 33)), some (.inl (p : Int)), some (.inl B), some (.inl (L : Int)), some (.inl (v : Int)), o5] [] σ' K := by
        intro σ' o5 fr g7 g8 ht
        refine At.blk rfl rfl rfl fun sx => ?_
        simp (decide := true) only [RR, ms_app, toList_some, toList_none, if_true, if_false, true_and, and_true, cond_true, sm0, sm1, sm1l, sm2, lc_lt, lc_gt, lc_eq, Int.toNat_natCast, Int.reduceToNat, Nat.reduceAdd, Nat.reduceEqDiff, Int.reduceLT, Int.reduceEq, Int.reduceNeg, Int.reduceAdd, Int.reduceMul, Nat.reduceMul, ms_n, ms_i, ms_l, ms_p, PX, w1 ()]
        exact ih (v + 1) (by omega) (by omega) σ' o5 fr g7 g8 ht
      refine At.blk rfl rfl rfl fun sx => ?_
      simp (decide := true) only [RR, ms_app, toList_some, toList_none, if_true, if_false, true_and, and_true, cond_true, sm0, sm1, sm1l, sm2, lc_lt, lc_gt, lc_eq, Int.toNat_natCast, Int.reduceToNat, Nat.reduceAdd, Nat.reduceEqDiff, Int.reduceLT, Int.reduceEq, Int.reduceNeg, Int.reduceAdd, Int.reduceMul, Nat.reduceMul, ms_n, ms_i, ms_l, ms_p, PX, eb v (by omega), fxX hF']
      rw [if_neg (by omega)]
      by_cases hf : fitB C w S p v = true
      · rw [if_pos hf, if_pos rfl]
        refine cal_of rfl (x_skyCopy hF' rfl rfl (by omega) ?_)
        have f2 : Fr [35, 36] [(34, 2), (34, 3), (34, 4)] σ' (skyC σ' 34 28) := Fr.copy
        have s2 := ((hsx.xr fr).copy n7).air (p := p) (v := (v : Int))
        generalize skyC σ' 34 28 = σ2 at *
        have F2 : Fr xrL xrT σ σ2 := fr.trans (f2.mono rfl)
        have hF2 := hF.fr F2 rfl
        simp (decide := true) only [RR, ms_app, toList_some, toList_none, if_true, if_false, true_and, and_true, cond_true, sm0, sm1, sm1l, sm2, lc_lt, lc_gt, lc_eq, Int.toNat_natCast, Int.reduceToNat, Nat.reduceAdd, Nat.reduceEqDiff, Int.reduceLT, Int.reduceEq, Int.reduceNeg, Int.reduceAdd, Int.reduceMul, Nat.reduceMul, ms_n, ms_i, ms_l, ms_p, PX, fxX hF2]
        refine ⟨⟨by omega, by omega⟩, ?_⟩
        have hwu : SkV C (airW w p (v : Int)) := airW_V hw (by omega)
        have loop2 : ∀ m j : Nat, L - j = m → j ≤ L → ∀ σ', Fr xrL xrT σ σ' → σ' 33 7 = σ 33 7 → σ' 33 8 = σ 33 8 → SkX σ' 34 C (ntM C (airW w p (v : Int)) j) → (∀ k, k < L → ∀ a, a < 21 → σ' 38 (k * 21 + a) = cntA C w S p (k + 1) (if k < j then v + 1 else v) a) → At (d + 4) 31 2 [some (.inr (.inr 33)), some (.inl (p : Int)), some (.inl B), some (.inl (L : Int)), some (.inl (v : Int)), some (.inl (j : Int))] [] σ' K := by
          intro m
          induction m with
          | zero =>
            intro j hj hj2 σ' fr g7 g8 sk ht
            obtain rfl : j = L := by omega
            refine At.blk rfl rfl rfl fun sx => ?_
            simp (decide := true) only [RR, ms_app, toList_some, toList_none, if_true, if_false, true_and, and_true, cond_true, sm0, sm1, sm1l, sm2, lc_lt, lc_gt, lc_eq, Int.toNat_natCast, Int.reduceToNat, Nat.reduceAdd, Nat.reduceEqDiff, Int.reduceLT, Int.reduceEq, Int.reduceNeg, Int.reduceAdd, Int.reduceMul, Nat.reduceMul, ms_n, ms_i, ms_l, ms_p, PX]
            rw [if_neg (by omega)]
            refine three σ' _ fr g7 g8 (fun k hk a ha => ?_)
            have := ht k hk a ha
            rw [if_pos hk] at this
            exact this
          | succ m ih2 =>
            intro j hj hj2 σ' fr g7 g8 sk ht
            have hF' := hF.fr fr rfl
            have c8 := hcx.xr fr
            have wn : (ntM C (airW w p (v : Int)) j).1 = w.1 + j := ntM_night (C := C) (w := airW w p (v : Int)) j
            have hwk := ntM_V hwu j (by show w.1 + (j : Int) ≤ 5000; omega)
            have w2 : Unit → w32 ((j : Int) + 1) = ((j + 1 : Nat) : Int) := fun _ => by rw [w32_small (by omega) (by omega)]; omega
            have w3 : Unit → w32 ((j : Int) * 21) = ((j * 21 : Nat) : Int) := fun _ => by rw [w32_small (by omega) (by omega)]; omega
            refine At.blk rfl rfl rfl fun sx => ?_
            simp (decide := true) only [RR, ms_app, toList_some, toList_none, if_true, if_false, true_and, and_true, cond_true, sm0, sm1, sm1l, sm2, lc_lt, lc_gt, lc_eq, Int.toNat_natCast, Int.reduceToNat, Nat.reduceAdd, Nat.reduceEqDiff, Int.reduceLT, Int.reduceEq, Int.reduceNeg, Int.reduceAdd, Int.reduceMul, Nat.reduceMul, ms_n, ms_i, ms_l, ms_p, PX, fxX hF']
            rw [if_pos (by omega)]
            refine cal_of rfl (x_foresee34 hF' hC hwk c8 sk (fun σ3 f3 hE h3 => ?_))
            have hF3 := hF'.fr f3 rfl
            simp (decide := true) only [RR, ms_app, toList_some, toList_none, if_true, if_false, true_and, and_true, cond_true, sm0, sm1, sm1l, sm2, lc_lt, lc_gt, lc_eq, Int.toNat_natCast, Int.reduceToNat, Nat.reduceAdd, Nat.reduceEqDiff, Int.reduceLT, Int.reduceEq, Int.reduceNeg, Int.reduceAdd, Int.reduceMul, Nat.reduceMul, ms_n, ms_i, ms_l, ms_p, PX, fxX hF3]
            refine cal_of rfl (x_pass34 hF3 hC hwk (c8.xw f3) (sk.xw34 f3) (fun p hp => (h3 p hp).2.2) (fun σ4 f4 s4 => ?_))
            rw [nxC_eq (by omega)] at s4
            have F4 : Fr xrL xrT σ σ4 := (fr.trans (f3.mono rfl)).trans (f4.mono rfl)
            have hF4 := hF.fr F4 rfl
            have ep : σ4 35 p = (ntM C (airW w p (v : Int)) (j + 1)).2.1 p := (s4.2.2.2 p hp).1
            have ab := ((ntM_V hwu (j + 1) (by show w.1 + ((j + 1 : Nat) : Int) ≤ 5000; omega)).2 p hp).1
            generalize hA : (ntM C (airW w p (v : Int)) (j + 1)).2.1 p = A at *
            obtain ⟨A, rfl⟩ := Int.eq_ofNat_of_zero_le ab.1
            have w4 : Unit → w32 (((j * 21 : Nat) : Int) + (A : Int)) = ((j * 21 + A : Nat) : Int) := fun _ => by rw [w32_small (by omega) (by omega)]; omega
            have r4 : ∀ i, σ4 38 i = σ' 38 i := fun i => (f4 38 i rfl).trans (f3 38 i rfl)
            have et : σ4 38 (j * 21 + A) = cntA C w S p (j + 1) v A := by
              rw [r4, ht j (by omega) A (by omega), if_neg (by omega)]
            have cb := cntA_le (C := C) (w := w) (S := S) (p := p) (k := j + 1) (m := v) (a := A)
            simp (decide := true) only [RR, ms_app, toList_some, toList_none, if_true, if_false, true_and, and_true, cond_true, sm0, sm1, sm1l, sm2, lc_lt, lc_gt, lc_eq, Int.toNat_natCast, Int.reduceToNat, Nat.reduceAdd, Nat.reduceEqDiff, Int.reduceLT, Int.reduceEq, Int.reduceNeg, Int.reduceAdd, Int.reduceMul, Nat.reduceMul, ms_n, ms_i, ms_l, ms_p, PX, fxX hF4, ep, w3 (), w4 (), et]
            refine ⟨⟨by omega, by omega⟩, ⟨by omega, by omega⟩, ⟨by omega, by omega⟩, ?_⟩
            rw [w2 (), w32_small (by omega) (by omega)]
            refine ih2 (j + 1) (by omega) (by omega) _ (F4.setr rfl) ((f4 33 7 rfl).trans ((f3 33 7 rfl).trans g7)) ((f4 33 8 rfl).trans ((f3 33 8 rfl).trans g8)) (s4.cg rfl rfl rfl) (fun k hk a ha => ?_)
            rw [ms_app, if_pos rfl]
            by_cases e : k = j
            · subst e
              rw [if_pos (by omega : k < k + 1), cntA_s]
              unfold cntI
              by_cases e2 : a = A
              · subst e2
                rw [if_pos rfl, if_pos ⟨hf, hA⟩]
              · rw [if_neg (by omega), if_neg (fun h => e2 (by have := hA.symm.trans h.2; omega)), r4, ht k hk a ha, if_neg (by omega)]
                omega
            · rw [if_neg (by omega), r4, ht k hk a ha]
              by_cases e2 : k < j
              · rw [if_pos e2, if_pos (by omega)]
              · rw [if_neg e2, if_neg (by omega)]
        exact loop2 L 0 rfl (by omega) _ (F2.setr rfl) ((f2 33 7 rfl).trans g7) ((f2 33 8 rfl).trans g8) s2 (fun k hk a ha => by
          rw [ms_row (by decide), f2 38 _ rfl, if_neg (by omega)]; exact ht k hk a ha)
      · rw [if_neg hf, if_neg (by decide)]
        refine three σ' _ fr g7 g8 (fun k hk a ha => ?_)
        rw [ht k hk a ha, cntA_s]
        unfold cntI
        rw [if_neg (fun h => hf h.1)]; omega
  exact loop 21 0 rfl (by omega) σ1 none (f1.mono rfl) (f1 33 7 rfl) (f1 33 8 rfl) (fun k hk a ha => by
    rw [h1 _ (by omega)]; rfl)
theorem x_mostTallied {k : Nat} (hk : k < 30) (hF : Fix σ) (hb : ∀ a, a < 21 → 0 ≤ σ 38 (k * 21 + a) ∧ σ 38 (k * 21 + a) ≤ 21) (hK : K (some (.inl (mxN (fun a => σ 38 (k * 21 + a)) 21))) σ) : Mt (d + 2) 32 [.inr (.inr 33), .inl (k : Int)] σ K := by
  refine Mt.go (lv := [some (.inr (.inr 33)), some (.inl (k : Int)), none, none]) rfl rfl rfl ?_
  have w3 : Unit → w32 ((k : Int) * 21) = ((k * 21 : Nat) : Int) := fun _ => by rw [w32_small (by omega) (by omega)]; omega
  refine At.blk rfl rfl rfl fun sx => ?_
  simp (decide := true) only [RR, ms_app, toList_some, toList_none, if_true, if_false, true_and, and_true, cond_true, sm0, sm1, sm1l, sm2, lc_lt, lc_gt, lc_eq, Int.toNat_natCast, Int.reduceToNat, Nat.reduceAdd, Nat.reduceEqDiff, Int.reduceLT, Int.reduceEq, Int.reduceNeg, Int.reduceAdd, Int.reduceMul, Nat.reduceMul, ms_n, ms_i, ms_l, ms_p, PX]
  have loop : ∀ m a : Nat, 21 - a = m → a ≤ 21 → At (d + 1) 32 1 [some (.inr (.inr 33)), some (.inl (k : Int)), some (.inl (mxN (fun a => σ 38 (k * 21 + a)) a)), some (.inl (a : Int))] [] σ K := by
    intro m
    induction m with
    | zero =>
      intro a ha ha2
      obtain rfl : a = 21 := by omega
      refine At.blk rfl rfl rfl fun sx => ?_
      simp (decide := true) only [RR, ms_app, toList_some, toList_none, if_true, if_false, true_and, and_true, cond_true, sm0, sm1, sm1l, sm2, lc_lt, lc_gt, lc_eq, Int.toNat_natCast, Int.reduceToNat, Nat.reduceAdd, Nat.reduceEqDiff, Int.reduceLT, Int.reduceEq, Int.reduceNeg, Int.reduceAdd, Int.reduceMul, Nat.reduceMul, ms_n, ms_i, ms_l, ms_p, PX]
      refine At.blk rfl rfl rfl fun sx => ?_
      simp (decide := true) only [RR, ms_app, toList_some, toList_none, if_true, if_false, true_and, and_true, cond_true, sm0, sm1, sm1l, sm2, lc_lt, lc_gt, lc_eq, Int.toNat_natCast, Int.reduceToNat, Nat.reduceAdd, Nat.reduceEqDiff, Int.reduceLT, Int.reduceEq, Int.reduceNeg, Int.reduceAdd, Int.reduceMul, Nat.reduceMul, ms_n, ms_i, ms_l, ms_p, PX]
      exact hK
    | succ m ih =>
      intro a ha ha2
      have w1 : Unit → w32 ((a : Int) + 1) = ((a + 1 : Nat) : Int) := fun _ => by rw [w32_small (by omega) (by omega)]; omega
      have w4 : Unit → w32 (((k * 21 : Nat) : Int) + (a : Int)) = ((k * 21 + a : Nat) : Int) := fun _ => by rw [w32_small (by omega) (by omega)]; omega
      refine At.blk rfl rfl rfl fun sx => ?_
      simp (decide := true) only [RR, ms_app, toList_some, toList_none, if_true, if_false, true_and, and_true, cond_true, sm0, sm1, sm1l, sm2, lc_lt, lc_gt, lc_eq, Int.toNat_natCast, Int.reduceToNat, Nat.reduceAdd, Nat.reduceEqDiff, Int.reduceLT, Int.reduceEq, Int.reduceNeg, Int.reduceAdd, Int.reduceMul, Nat.reduceMul, ms_n, ms_i, ms_l, ms_p, PX, fxX hF, w3 (), w4 ()]
      rw [if_neg (by omega)]
      refine ⟨⟨by omega, by omega⟩, ?_⟩
      refine cal_of rfl (x_imaxE ?_)
      simp (decide := true) only [RR, ms_app, toList_some, toList_none, if_true, if_false, true_and, and_true, cond_true, sm0, sm1, sm1l, sm2, lc_lt, lc_gt, lc_eq, Int.toNat_natCast, Int.reduceToNat, Nat.reduceAdd, Nat.reduceEqDiff, Int.reduceLT, Int.reduceEq, Int.reduceNeg, Int.reduceAdd, Int.reduceMul, Nat.reduceMul, ms_n, ms_i, ms_l, ms_p, PX, w1 ()]
      exact ih (a + 1) (by omega) (by omega)
  exact loop 21 0 rfl (by omega)
theorem x_findTelling {p : Nat} (hF : Fix σ) (hC : CtV C) (hp : p < C.1) (hcx : CtX σ C) (hw : SkV C w) (hsx : SkX σ 28 C w) (h9 : 0 ≤ w.1 ∧ w.1 ≤ 999) (hK : ∀ σ', Fr xrL xrT σ σ' → σ' 33 7 = (telB C w S p (telL C w S p)).1 → σ' 33 8 = (telB C w S p (telL C w S p)).2 → K none σ') : Mt (d + 6) 30 [.inr (.inr 33), .inl (p : Int), .inl ((bitsN (fitB C w S p) 21 : Nat) : Int)] σ K := by
  refine Mt.go (lv := [some (.inr (.inr 33)), some (.inl (p : Int)), some (.inl ((bitsN (fitB C w S p) 21 : Nat) : Int)), none, none, none]) rfl rfl rfl ?_
  have n7 := hC.1
  have en : σ 28 2 = w.1 := hsx.1
  have w0 : Unit → w32 (999 - w.1) = 999 - w.1 := fun _ => w32_small (by omega) (by omega)
  obtain ⟨l1, l2, l3, l4⟩ := lstN_le (L := 30) h9 (by decide)
  unfold telL at hK
  generalize lstN w 30 = L at *
  refine At.blk rfl rfl rfl fun sx => ?_
  simp (decide := true) only [RR, ms_app, toList_some, toList_none, if_true, if_false, true_and, and_true, cond_true, sm0, sm1, sm1l, sm2, lc_lt, lc_gt, lc_eq, Int.toNat_natCast, Int.reduceToNat, Nat.reduceAdd, Nat.reduceEqDiff, Int.reduceLT, Int.reduceEq, Int.reduceNeg, Int.reduceAdd, Int.reduceMul, Nat.reduceMul, ms_n, ms_i, ms_l, ms_p, PX, fxX hF, en, w0 ()]
  refine cal_of rfl (x_iminE ?_)
  rw [l4]
  simp (decide := true) only [RR, ms_app, toList_some, toList_none, if_true, if_false, true_and, and_true, cond_true, sm0, sm1, sm1l, sm2, lc_lt, lc_gt, lc_eq, Int.toNat_natCast, Int.reduceToNat, Nat.reduceAdd, Nat.reduceEqDiff, Int.reduceLT, Int.reduceEq, Int.reduceNeg, Int.reduceAdd, Int.reduceMul, Nat.reduceMul, ms_n, ms_i, ms_l, ms_p, PX]
  have f0 : Fr xrL xrT σ (mj_set (mj_set σ 33 7 (-1)) 33 8 (-1)) := (Fr.same.set rfl).set rfl
  have hF0 := hF.fr f0 rfl
  by_cases e0 : bitsN (fitB C w S p) 21 = 0
  · rw [if_pos (by omega)]
    rw [if_pos e0] at hK
    exact hK _ f0 rfl rfl
  · rw [if_neg (by omega)]
    rw [if_neg e0] at hK
    refine At.blk rfl rfl rfl fun sx => ?_
    simp (decide := true) only [RR, ms_app, toList_some, toList_none, if_true, if_false, true_and, and_true, cond_true, sm0, sm1, sm1l, sm2, lc_lt, lc_gt, lc_eq, Int.toNat_natCast, Int.reduceToNat, Nat.reduceAdd, Nat.reduceEqDiff, Int.reduceLT, Int.reduceEq, Int.reduceNeg, Int.reduceAdd, Int.reduceMul, Nat.reduceMul, ms_n, ms_i, ms_l, ms_p, PX]
    refine cal_of rfl (x_tallyAirs (S := S) hF0 hC hp (hcx.xr f0) hw (hsx.xr f0) (by omega) l1 (fun σ1 f1 g7 g8 ht => ?_))
    have g7 : σ1 33 7 = -1 := g7
    have g8 : σ1 33 8 = -1 := g8
    have F1 := f0.trans f1
    have hF1 := hF.fr F1 rfl
    simp (decide := true) only [RR, ms_app, toList_some, toList_none, if_true, if_false, true_and, and_true, cond_true, sm0, sm1, sm1l, sm2, lc_lt, lc_gt, lc_eq, Int.toNat_natCast, Int.reduceToNat, Nat.reduceAdd, Nat.reduceEqDiff, Int.reduceLT, Int.reduceEq, Int.reduceNeg, Int.reduceAdd, Int.reduceMul, Nat.reduceMul, ms_n, ms_i, ms_l, ms_p, PX]
    have loop : ∀ m k : Nat, L - k = m → k ≤ L → ∀ (σ' : mM) (o5 : Option mV), Fr [] [(33, 7), (33, 8)] σ1 σ' → σ' 33 7 = (telB C w S p k).1 → σ' 33 8 = (telB C w S p k).2 → At (d + 5) 30 2 [some (.inr (.inr 33)), some (.inl (p : Int)), some (.inl ((bitsN (fitB C w S p) 21 : Nat) : Int)), some (.inl (L : Int)), some (.inl (k : Int)), o5] [] σ' K := by
      intro m
      induction m with
      | zero =>
        intro k hk hk2 σ' o5 fr e7 e8
        obtain rfl : k = L := by omega
        refine At.blk rfl rfl rfl fun sx => ?_
        simp (decide := true) only [RR, ms_app, toList_some, toList_none, if_true, if_false, true_and, and_true, cond_true, sm0, sm1, sm1l, sm2, lc_lt, lc_gt, lc_eq, Int.toNat_natCast, Int.reduceToNat, Nat.reduceAdd, Nat.reduceEqDiff, Int.reduceLT, Int.reduceEq, Int.reduceNeg, Int.reduceAdd, Int.reduceMul, Nat.reduceMul, ms_n, ms_i, ms_l, ms_p, PX]
        rw [if_neg (by omega)]
        refine At.blk rfl rfl rfl fun sx => ?_
        simp (decide := true) only [RR, ms_app, toList_some, toList_none, if_true, if_false, true_and, and_true, cond_true, sm0, sm1, sm1l, sm2, lc_lt, lc_gt, lc_eq, Int.toNat_natCast, Int.reduceToNat, Nat.reduceAdd, Nat.reduceEqDiff, Int.reduceLT, Int.reduceEq, Int.reduceNeg, Int.reduceAdd, Int.reduceMul, Nat.reduceMul, ms_n, ms_i, ms_l, ms_p, PX]
        exact hK σ' (F1.trans (fr.mono rfl)) e7 e8
      | succ m ih =>
        intro k hk hk2 σ' o5 fr e7 e8
        have hF' := hF1.fr fr rfl
        have w1 : Unit → w32 ((k : Int) + 1) = ((k + 1 : Nat) : Int) := fun _ => by rw [w32_small (by omega) (by omega)]; omega
        have hta : ∀ a, a < 21 → σ' 38 (k * 21 + a) = cntA C w S p (k + 1) 21 a := fun a ha => (fr 38 _ rfl).trans (ht k (by omega) a ha)
        refine At.blk rfl rfl rfl fun sx => ?_
        simp (decide := true) only [RR, ms_app, toList_some, toList_none, if_true, if_false, true_and, and_true, cond_true, sm0, sm1, sm1l, sm2, lc_lt, lc_gt, lc_eq, Int.toNat_natCast, Int.reduceToNat, Nat.reduceAdd, Nat.reduceEqDiff, Int.reduceLT, Int.reduceEq, Int.reduceNeg, Int.reduceAdd, Int.reduceMul, Nat.reduceMul, ms_n, ms_i, ms_l, ms_p, PX]
        rw [if_pos (by omega)]
        refine cal_of rfl (x_mostTallied (by omega) hF' (fun a ha => by rw [hta a ha]; exact cntA_le) ?_)
        rw [mxN_cg 21 hta]
        have em : mxN (cntA C w S p (k + 1) 21) 21 = mosT C w S p (k + 1) := rfl
        rw [show mxN (fun a => cntA C w S p (k + 1) 21 a) 21 = mosT C w S p (k + 1) from rfl]
        simp (decide := true) only [RR, ms_app, toList_some, toList_none, if_true, if_false, true_and, and_true, cond_true, sm0, sm1, sm1l, sm2, lc_lt, lc_gt, lc_eq, Int.toNat_natCast, Int.reduceToNat, Nat.reduceAdd, Nat.reduceEqDiff, Int.reduceLT, Int.reduceEq, Int.reduceNeg, Int.reduceAdd, Int.reduceMul, Nat.reduceMul, ms_n, ms_i, ms_l, ms_p, PX, e7]
        have four : ∀ σ', Fr [] [(33, 7), (33, 8)] σ1 σ' → σ' 33 7 = (telB C w S p (k + 1)).1 → σ' 33 8 = (telB C w S p (k + 1)).2 → ∀ o5, At (d + 5) 30 4 [some (.inr (.inr 33)), some (.inl (p : Int)), some (.inl ((bitsN (fitB C w S p) 21 : Nat) : Int)), some (.inl (L : Int)), some (.inl (k : Int)), o5] [] σ' K := by
          intro σ' fr e7 e8 o5
          refine At.blk rfl rfl rfl fun sx => ?_
          simp (decide := true) only [RR, ms_app, toList_some, toList_none, if_true, if_false, true_and, and_true, cond_true, sm0, sm1, sm1l, sm2, lc_lt, lc_gt, lc_eq, Int.toNat_natCast, Int.reduceToNat, Nat.reduceAdd, Nat.reduceEqDiff, Int.reduceLT, Int.reduceEq, Int.reduceNeg, Int.reduceAdd, Int.reduceMul, Nat.reduceMul, ms_n, ms_i, ms_l, ms_p, PX, w1 ()]
          exact ih (k + 1) (by omega) (by omega) σ' o5 fr e7 e8
        have yes : ((telB C w S p k).1 = -1 ∨ mosT C w S p (k + 1) < (telB C w S p k).2) → At (d + 5) 30 3 [some (.inr (.inr 33)), some (.inl (p : Int)), some (.inl ((bitsN (fitB C w S p) 21 : Nat) : Int)), some (.inl (L : Int)), some (.inl (k : Int)), some (.inl (mosT C w S p (k + 1)))] [] σ' K := by
          intro hc
          refine At.blk rfl rfl rfl fun sx => ?_
          simp (decide := true) only [RR, ms_app, toList_some, toList_none, if_true, if_false, true_and, and_true, cond_true, sm0, sm1, sm1l, sm2, lc_lt, lc_gt, lc_eq, Int.toNat_natCast, Int.reduceToNat, Nat.reduceAdd, Nat.reduceEqDiff, Int.reduceLT, Int.reduceEq, Int.reduceNeg, Int.reduceAdd, Int.reduceMul, Nat.reduceMul, ms_n, ms_i, ms_l, ms_p, PX, w1 ()]
          refine four _ ((fr.set rfl).set rfl) ?_ ?_ _
          · rw [telB_s, if_pos hc]; rfl
          · rw [telB_s, if_pos hc]; rfl
        by_cases c1 : (telB C w S p k).1 = -1
        · rw [if_pos c1]; exact yes (Or.inl c1)
        · rw [if_neg c1, e8]
          by_cases c2 : mosT C w S p (k + 1) < (telB C w S p k).2
          · rw [if_pos c2]; exact yes (Or.inr c2)
          · rw [if_neg c2]
            refine four σ' fr ?_ ?_ _
            · rw [telB_s, if_neg (by omega)]; exact e7
            · rw [telB_s, if_neg (by omega)]; exact e8
    exact loop L 0 rfl (by omega) σ1 none Fr.same g7 g8
theorem x_tells {a b : Int} (hF : Fix σ) (hW : Wrl σ C w l) (hS : SeX σ S) (hV : SeV C S) (hK : ∀ σ' v, Fr xrL xrT σ σ' → telV C w S a b v → K (some (.inl v)) σ') : Mt (d + 7) 124 [.inr (.inr 0), .inl a, .inl b] σ K := by
  refine Mt.go (lv := [some (.inr (.inr 0)), some (.inl a), some (.inl b)]) rfl rfl rfl ?_
  obtain ⟨hC, hcx, hcm, hw, hsx, hsm, hkx, hkm, hkv, h9⟩ := hW
  have no : ¬((0 ≤ a ∧ a < C.1) ∧ (0 ≤ b ∧ b ≤ 1)) → At (d + 6) 124 1 [some (.inr (.inr 0)), some (.inl a), some (.inl b)] [] σ K := by
    intro h
    refine At.blk rfl rfl rfl fun sx => ?_
    simp (decide := true) only [RR, ms_app, toList_some, toList_none, if_true, if_false, true_and, and_true, cond_true, sm0, sm1, sm1l, sm2, lc_lt, lc_gt, lc_eq, Int.toNat_natCast, Int.reduceToNat, Nat.reduceAdd, Nat.reduceEqDiff, Int.reduceLT, Int.reduceEq, Int.reduceNeg, Int.reduceAdd, Int.reduceMul, Nat.reduceMul, ms_n, ms_i, ms_l, ms_p, PX]
    exact hK σ _ Fr.same ⟨fun h2 => absurd h2 h, fun _ => rfl⟩
  refine At.blk rfl rfl rfl fun sx => ?_
  simp (decide := true) only [RR, ms_app, toList_some, toList_none, if_true, if_false, true_and, and_true, cond_true, sm0, sm1, sm1l, sm2, lc_lt, lc_gt, lc_eq, Int.toNat_natCast, Int.reduceToNat, Nat.reduceAdd, Nat.reduceEqDiff, Int.reduceLT, Int.reduceEq, Int.reduceNeg, Int.reduceAdd, Int.reduceMul, Nat.reduceMul, ms_n, ms_i, ms_l, ms_p, PX, fxX hF]
  refine cal_of rfl (x_holds3 (fun hh => ?_) (fun hh => ?_))
  · rw [hcx.1] at hh
    simp (decide := true) only [RR, ms_app, toList_some, toList_none, if_true, if_false, true_and, and_true, cond_true, sm0, sm1, sm1l, sm2, lc_lt, lc_gt, lc_eq, Int.toNat_natCast, Int.reduceToNat, Nat.reduceAdd, Nat.reduceEqDiff, Int.reduceLT, Int.reduceEq, Int.reduceNeg, Int.reduceAdd, Int.reduceMul, Nat.reduceMul, ms_n, ms_i, ms_l, ms_p, PX]
    by_cases b0 : b < 0
    · rw [if_pos b0]; exact no (by omega)
    · rw [if_neg b0]
      by_cases b1 : 1 < b
      · rw [if_pos b1]; exact no (by omega)
      · rw [if_neg b1]
        obtain ⟨p, rfl⟩ := Int.eq_ofNat_of_zero_le hh.1
        refine At.blk rfl rfl rfl fun sx => ?_
        simp (decide := true) only [RR, ms_app, toList_some, toList_none, if_true, if_false, true_and, and_true, cond_true, sm0, sm1, sm1l, sm2, lc_lt, lc_gt, lc_eq, Int.toNat_natCast, Int.reduceToNat, Nat.reduceAdd, Nat.reduceEqDiff, Int.reduceLT, Int.reduceEq, Int.reduceNeg, Int.reduceAdd, Int.reduceMul, Nat.reduceMul, ms_n, ms_i, ms_l, ms_p, PX, fxX hF]
        refine cal_of rfl (x_fitting hF hC (by omega) hcx hw hsx hS hV h9 (fun σ1 f1 => ?_))
        have hF1 := hF.fr f1 rfl
        simp (decide := true) only [RR, ms_app, toList_some, toList_none, if_true, if_false, true_and, and_true, cond_true, sm0, sm1, sm1l, sm2, lc_lt, lc_gt, lc_eq, Int.toNat_natCast, Int.reduceToNat, Nat.reduceAdd, Nat.reduceEqDiff, Int.reduceLT, Int.reduceEq, Int.reduceNeg, Int.reduceAdd, Int.reduceMul, Nat.reduceMul, ms_n, ms_i, ms_l, ms_p, PX]
        refine cal_of rfl (x_findTelling hF1 hC (by omega) (hcx.xr f1) hw (hsx.xr f1) h9 (fun σ2 f2 e7 e8 => ?_))
        have hF2 := hF1.fr f2 rfl
        have F2 := f1.trans f2
        simp (decide := true) only [RR, ms_app, toList_some, toList_none, if_true, if_false, true_and, and_true, cond_true, sm0, sm1, sm1l, sm2, lc_lt, lc_gt, lc_eq, Int.toNat_natCast, Int.reduceToNat, Nat.reduceAdd, Nat.reduceEqDiff, Int.reduceLT, Int.reduceEq, Int.reduceNeg, Int.reduceAdd, Int.reduceMul, Nat.reduceMul, ms_n, ms_i, ms_l, ms_p, PX, fxX hF2, e7]
        by_cases b2 : b = 0
        · rw [if_pos b2]
          refine At.blk rfl rfl rfl fun sx => ?_
          simp (decide := true) only [RR, ms_app, toList_some, toList_none, if_true, if_false, true_and, and_true, cond_true, sm0, sm1, sm1l, sm2, lc_lt, lc_gt, lc_eq, Int.toNat_natCast, Int.reduceToNat, Nat.reduceAdd, Nat.reduceEqDiff, Int.reduceLT, Int.reduceEq, Int.reduceNeg, Int.reduceAdd, Int.reduceMul, Nat.reduceMul, ms_n, ms_i, ms_l, ms_p, PX]
          exact hK σ2 _ F2 ⟨fun _ => by rw [if_pos b2, Int.toNat_natCast], fun h => absurd (by omega) h⟩
        · rw [if_neg b2]
          refine At.blk rfl rfl rfl fun sx => ?_
          simp (decide := true) only [RR, ms_app, toList_some, toList_none, if_true, if_false, true_and, and_true, cond_true, sm0, sm1, sm1l, sm2, lc_lt, lc_gt, lc_eq, Int.toNat_natCast, Int.reduceToNat, Nat.reduceAdd, Nat.reduceEqDiff, Int.reduceLT, Int.reduceEq, Int.reduceNeg, Int.reduceAdd, Int.reduceMul, Nat.reduceMul, ms_n, ms_i, ms_l, ms_p, PX, fxX hF2, e8]
          refine At.blk rfl rfl rfl fun sx => ?_
          simp (decide := true) only [RR, ms_app, toList_some, toList_none, if_true, if_false, true_and, and_true, cond_true, sm0, sm1, sm1l, sm2, lc_lt, lc_gt, lc_eq, Int.toNat_natCast, Int.reduceToNat, Nat.reduceAdd, Nat.reduceEqDiff, Int.reduceLT, Int.reduceEq, Int.reduceNeg, Int.reduceAdd, Int.reduceMul, Nat.reduceMul, ms_n, ms_i, ms_l, ms_p, PX]
          exact hK σ2 _ F2 ⟨fun _ => by rw [if_neg b2, Int.toNat_natCast], fun h => absurd (by omega) h⟩
  · rw [hcx.1] at hh
    simp (decide := true) only [RR, ms_app, toList_some, toList_none, if_true, if_false, true_and, and_true, cond_true, sm0, sm1, sm1l, sm2, lc_lt, lc_gt, lc_eq, Int.toNat_natCast, Int.reduceToNat, Nat.reduceAdd, Nat.reduceEqDiff, Int.reduceLT, Int.reduceEq, Int.reduceNeg, Int.reduceAdd, Int.reduceMul, Nat.reduceMul, ms_n, ms_i, ms_l, ms_p, PX]
    exact no (by omega)
/-! the model's -/
theorem m_mostAlike {p k : Nat} (hk : k ≤ 30) (hF : Fix σ) (hC : CtV C) (hp : p < C.1) (hw : SkV C w) (h9 : 0 ≤ w.1 ∧ w.1 ≤ 999) (hL : LfM σ C w S p 21) (hK : ∀ σ', Fr [192] [] σ σ' → K (some (.inl (mosT C w S p k))) σ') : Mt (d + 1) 224 [.inr (.inr 146), .inl (k : Int)] σ K := by
  refine Mt.go (lv := [some (.inr (.inr 146)), some (.inl (k : Int)), none, none, none]) rfl rfl rfl ?_
  refine At.blk rfl rfl rfl fun sx => ?_
  simp (decide := true) only [RR, ms_app, toList_some, toList_none, if_true, if_false, true_and, and_true, cond_true, sm0, sm1, sm1l, sm2, lc_lt, lc_gt, lc_eq, Int.toNat_natCast, Int.reduceToNat, Nat.reduceAdd, Nat.reduceEqDiff, Int.reduceLT, Int.reduceEq, Int.reduceNeg, Int.reduceAdd, Int.reduceMul, Nat.reduceMul, ms_n, ms_i, ms_l, ms_p, PM]
  have loop1 : ∀ m j : Nat, 21 - j = m → j ≤ 21 → ∀ σ', Fr [192] [] σ σ' → (∀ a, a < j → σ' 192 a = 0) → At d 224 1 [some (.inr (.inr 146)), some (.inl (k : Int)), some (.inl 0), some (.inl (j : Int)), none] [] σ' K := by
    intro m
    induction m with
    | zero =>
      intro j hj hj2 σ' fr h0
      obtain rfl : j = 21 := by omega
      refine At.blk rfl rfl rfl fun sx => ?_
      simp (decide := true) only [RR, ms_app, toList_some, toList_none, if_true, if_false, true_and, and_true, cond_true, sm0, sm1, sm1l, sm2, lc_lt, lc_gt, lc_eq, Int.toNat_natCast, Int.reduceToNat, Nat.reduceAdd, Nat.reduceEqDiff, Int.reduceLT, Int.reduceEq, Int.reduceNeg, Int.reduceAdd, Int.reduceMul, Nat.reduceMul, ms_n, ms_i, ms_l, ms_p, PM]
      refine At.blk rfl rfl rfl fun sx => ?_
      simp (decide := true) only [RR, ms_app, toList_some, toList_none, if_true, if_false, true_and, and_true, cond_true, sm0, sm1, sm1l, sm2, lc_lt, lc_gt, lc_eq, Int.toNat_natCast, Int.reduceToNat, Nat.reduceAdd, Nat.reduceEqDiff, Int.reduceLT, Int.reduceEq, Int.reduceNeg, Int.reduceAdd, Int.reduceMul, Nat.reduceMul, ms_n, ms_i, ms_l, ms_p, PM]
      have loop2 : ∀ m v : Nat, 21 - v = m → v ≤ 21 → ∀ (σ' : mM) (o4 : Option mV), Fr [192] [] σ σ' → (∀ a, a < 21 → σ' 192 a = cntA C w S p k v a) → At d 224 3 [some (.inr (.inr 146)), some (.inl (k : Int)), some (.inl (mxN (cntA C w S p k v) 21)), some (.inl (v : Int)), o4] [] σ' K := by
        intro m
        induction m with
        | zero =>
          intro v hv hv2 σ' o4 fr hc
          obtain rfl : v = 21 := by omega
          refine At.blk rfl rfl rfl fun sx => ?_
          simp (decide := true) only [RR, ms_app, toList_some, toList_none, if_true, if_false, true_and, and_true, cond_true, sm0, sm1, sm1l, sm2, lc_lt, lc_gt, lc_eq, Int.toNat_natCast, Int.reduceToNat, Nat.reduceAdd, Nat.reduceEqDiff, Int.reduceLT, Int.reduceEq, Int.reduceNeg, Int.reduceAdd, Int.reduceMul, Nat.reduceMul, ms_n, ms_i, ms_l, ms_p, PM]
          refine At.blk rfl rfl rfl fun sx => ?_
          simp (decide := true) only [RR, ms_app, toList_some, toList_none, if_true, if_false, true_and, and_true, cond_true, sm0, sm1, sm1l, sm2, lc_lt, lc_gt, lc_eq, Int.toNat_natCast, Int.reduceToNat, Nat.reduceAdd, Nat.reduceEqDiff, Int.reduceLT, Int.reduceEq, Int.reduceNeg, Int.reduceAdd, Int.reduceMul, Nat.reduceMul, ms_n, ms_i, ms_l, ms_p, PM]
          exact hK σ' fr
        | succ m ih =>
          intro v hv hv2 σ' o4 fr hc
          have hF' := hF.fr fr rfl
          have w1 : Unit → w32 ((v : Int) + 1) = ((v + 1 : Nat) : Int) := fun _ => by rw [w32_small (by omega) (by omega)]; omega
          have w31 : Unit → w32 (31 * (v : Int)) = ((31 * v : Nat) : Int) := fun _ => by rw [w32_small (by omega) (by omega)]; omega
          have w4 : Unit → w32 (((31 * v : Nat) : Int) + (k : Int)) = ((31 * v + k : Nat) : Int) := fun _ => by rw [w32_small (by omega) (by omega)]; omega
          have ek : σ' 191 v = fitI C w S p v := (fr 191 v rfl).trans (hL.1 v (by omega))
          have five : ∀ (σ' : mM) (u : Int) (o4 : Option mV), Fr [192] [] σ σ' → (∀ a, a < 21 → σ' 192 a = cntA C w S p k (v + 1) a) → u = mxN (cntA C w S p k (v + 1)) 21 → At d 224 5 [some (.inr (.inr 146)), some (.inl (k : Int)), some (.inl u), some (.inl (v : Int)), o4] [] σ' K := by
            intro σ' u o4 fr hc hu
            refine At.blk rfl rfl rfl fun sx => ?_
            simp (decide := true) only [RR, ms_app, toList_some, toList_none, if_true, if_false, true_and, and_true, cond_true, sm0, sm1, sm1l, sm2, lc_lt, lc_gt, lc_eq, Int.toNat_natCast, Int.reduceToNat, Nat.reduceAdd, Nat.reduceEqDiff, Int.reduceLT, Int.reduceEq, Int.reduceNeg, Int.reduceAdd, Int.reduceMul, Nat.reduceMul, ms_n, ms_i, ms_l, ms_p, PM, w1 ()]
            rw [hu]
            exact ih (v + 1) (by omega) (by omega) σ' o4 fr hc
          unfold fitI at ek
          refine At.blk rfl rfl rfl fun sx => ?_
          simp (decide := true) only [RR, ms_app, toList_some, toList_none, if_true, if_false, true_and, and_true, cond_true, sm0, sm1, sm1l, sm2, lc_lt, lc_gt, lc_eq, Int.toNat_natCast, Int.reduceToNat, Nat.reduceAdd, Nat.reduceEqDiff, Int.reduceLT, Int.reduceEq, Int.reduceNeg, Int.reduceAdd, Int.reduceMul, Nat.reduceMul, ms_n, ms_i, ms_l, ms_p, PM, fxM hF', ek]
          rw [if_pos (by omega)]
          refine ⟨⟨by omega, by omega⟩, ?_⟩
          by_cases hf : fitB C w S p v = true
          · rw [if_pos hf, if_neg (by decide)]
            have ew : σ' 190 (31 * v + k) = (ntM C (airW w p (v : Int)) k).2.1 p := (fr 190 _ rfl).trans (hL.2.1 v (by omega) k hk)
            have ab := ((ntM_V (airW_V (p := p) (v := (v : Int)) hw (by omega)) k (by show w.1 + (k : Int) ≤ 5000; omega)).2 p hp).1
            generalize hA : (ntM C (airW w p (v : Int)) k).2.1 p = A at *
            obtain ⟨A, rfl⟩ := Int.eq_ofNat_of_zero_le ab.1
            have cb := cntA_le (C := C) (w := w) (S := S) (p := p) (k := k) (m := v) (a := A)
            have hb : cntA C w S p k (v + 1) A = cntA C w S p k v A + 1 := by
              rw [cntA_s]; unfold cntI; rw [if_pos ⟨hf, hA⟩]
            have ho : ∀ a, a ≠ A → cntA C w S p k (v + 1) a = cntA C w S p k v a := fun a ha => by
              rw [cntA_s]; unfold cntI
              rw [if_neg (fun h => ha (by have := hA.symm.trans h.2; omega))]; omega
            have up := mxN_up hb ho 21
            rw [if_pos (by omega)] at up
            have eA := hc A (by omega)
            have w5 : Unit → w32 (cntA C w S p k v A + 1) = cntA C w S p k (v + 1) A := fun _ => by rw [w32_small (by omega) (by omega)]; omega
            refine At.blk rfl rfl rfl fun sx => ?_
            simp (decide := true) only [RR, ms_app, toList_some, toList_none, if_true, if_false, true_and, and_true, cond_true, sm0, sm1, sm1l, sm2, lc_lt, lc_gt, lc_eq, Int.toNat_natCast, Int.reduceToNat, Nat.reduceAdd, Nat.reduceEqDiff, Int.reduceLT, Int.reduceEq, Int.reduceNeg, Int.reduceAdd, Int.reduceMul, Nat.reduceMul, ms_n, ms_i, ms_l, ms_p, PM, fxM hF', w31 (), w4 (), ew, eA, w5 ()]
            refine ⟨⟨by omega, by omega⟩, ⟨by omega, by omega⟩, ⟨by omega, by omega⟩, ⟨by omega, by omega⟩, ?_⟩
            have fc : ∀ a, a < 21 → mj_set σ' 192 A (cntA C w S p k (v + 1) A) 192 a = cntA C w S p k (v + 1) a := fun a ha => by
              rw [ms_app, if_pos rfl]
              by_cases e : a = A
              · rw [if_pos e, e]
              · rw [if_neg e, ho a e]; exact hc a ha
            by_cases c2 : mxN (cntA C w S p k v) 21 < cntA C w S p k (v + 1) A
            · rw [if_pos c2] at up ⊢
              refine ⟨⟨by omega, by omega⟩, ?_⟩
              exact five _ _ _ (fr.setr rfl) fc up.symm
            · rw [if_neg c2] at up ⊢
              exact five _ _ _ (fr.setr rfl) fc up.symm
          · rw [if_neg hf, if_pos rfl]
            have ho : ∀ a, cntA C w S p k (v + 1) a = cntA C w S p k v a := fun a => by
              rw [cntA_s]; unfold cntI
              rw [if_neg (fun h => hf h.1)]; omega
            exact five σ' _ _ fr (fun a ha => by rw [ho]; exact hc a ha) (mxN_cg 21 (fun a _ => (ho a).symm))
      have := loop2 21 0 rfl (by omega) σ' none fr (fun a ha => by rw [h0 a ha]; rfl)
      rw [mxN_zero (f := cntA C w S p k 0) 21 (fun a _ => rfl)] at this
      exact this
    | succ m ih =>
      intro j hj hj2 σ' fr h0
      have hF' := hF.fr fr rfl
      have w1 : Unit → w32 ((j : Int) + 1) = ((j + 1 : Nat) : Int) := fun _ => by rw [w32_small (by omega) (by omega)]; omega
      refine At.blk rfl rfl rfl fun sx => ?_
      simp (decide := true) only [RR, ms_app, toList_some, toList_none, if_true, if_false, true_and, and_true, cond_true, sm0, sm1, sm1l, sm2, lc_lt, lc_gt, lc_eq, Int.toNat_natCast, Int.reduceToNat, Nat.reduceAdd, Nat.reduceEqDiff, Int.reduceLT, Int.reduceEq, Int.reduceNeg, Int.reduceAdd, Int.reduceMul, Nat.reduceMul, ms_n, ms_i, ms_l, ms_p, PM, fxM hF', w1 ()]
      rw [if_pos (by omega)]
      refine ⟨⟨by omega, by omega⟩, ?_⟩
      refine ih (j + 1) (by omega) (by omega) _ (fr.setr rfl) (fun a ha => ?_)
      rw [ms_app, if_pos rfl]
      by_cases e : a = j
      · rw [if_pos e]
      · rw [if_neg e]; exact h0 a (by omega)
  exact loop1 21 0 rfl (by omega) σ Fr.same (fun a ha => absurd ha (by omega))
theorem fit_none {p : Nat} (h : bitsN (fitB C w S p) 21 = 0) : sumN (fitI C w S p) 21 = 0 := by
  have e : ∀ n, n ≤ 21 → sumN (fitI C w S p) n = 0 := by
    intro n
    induction n with
    | zero => intro _; rfl
    | succ n ih =>
      intro hn
      have hf : fitB C w S p n = false := by
        cases hc : fitB C w S p n
        · rfl
        · exact absurd h (bitsN_some 21 n (by omega) hc)
      show sumN (fitI C w S p) n + fitI C w S p n = 0
      rw [ih (by omega)]
      unfold fitI
      rw [hf]; rfl
  exact e 21 (Nat.le_refl _)
theorem fit_some {p : Nat} (h : bitsN (fitB C w S p) 21 ≠ 0) : 0 < sumN (fitI C w S p) 21 := by
  have e : ∀ n, n ≤ 21 → bitsN (fitB C w S p) n ≠ 0 → 0 < sumN (fitI C w S p) n := by
    intro n
    induction n with
    | zero => intro _ h; exact absurd rfl h
    | succ n ih =>
      intro hn h2
      show 0 < sumN (fitI C w S p) n + fitI C w S p n
      have b := sumN_le (f := fitI C w S p) (c := 1) n (fun j _ => fitI_le)
      cases hc : fitB C w S p n
      · rw [bitsN_no hc] at h2
        have := ih (by omega) h2
        have := fitI_le (C := C) (w := w) (S := S) (p := p) (v := n)
        omega
      · unfold fitI at *
        rw [if_pos hc]; omega
  exact e 21 (Nat.le_refl _) h
theorem m_tells {a b : Int} (hF : Fix σ) (hW : Wrl σ C w l) (hS : SeM σ S) (hV : SeV C S) (h53 : σ 146 53 = 0) (hK : ∀ σ' v, Fr mrL mrT σ σ' → telV C w S a b v → K (some (.inl v)) σ') : Mt (d + 11) 225 [.inr (.inr 146), .inl a, .inl b] σ K := by
  refine Mt.go (lv := [some (.inr (.inr 146)), some (.inl a), some (.inl b), none, none, none, none]) rfl rfl rfl ?_
  obtain ⟨hC, hcx, hcm, hw, hsx, hsm, hkx, hkm, hkv, h9⟩ := hW
  have n7 := hC.1
  have no : ¬((0 ≤ a ∧ a < C.1) ∧ (0 ≤ b ∧ b ≤ 1)) → At (d + 10) 225 1 [some (.inr (.inr 146)), some (.inl a), some (.inl b), none, none, none, none] [] σ K := by
    intro h
    refine At.blk rfl rfl rfl fun sx => ?_
    simp (decide := true) only [RR, ms_app, toList_some, toList_none, if_true, if_false, true_and, and_true, cond_true, sm0, sm1, sm1l, sm2, lc_lt, lc_gt, lc_eq, Int.toNat_natCast, Int.reduceToNat, Nat.reduceAdd, Nat.reduceEqDiff, Int.reduceLT, Int.reduceEq, Int.reduceNeg, Int.reduceAdd, Int.reduceMul, Nat.reduceMul, ms_n, ms_i, ms_l, ms_p, PM]
    exact hK σ _ Fr.same ⟨fun h2 => absurd h2 h, fun _ => rfl⟩
  refine At.blk rfl rfl rfl fun sx => ?_
  simp (decide := true) only [RR, ms_app, toList_some, toList_none, if_true, if_false, true_and, and_true, cond_true, sm0, sm1, sm1l, sm2, lc_lt, lc_gt, lc_eq, Int.toNat_natCast, Int.reduceToNat, Nat.reduceAdd, Nat.reduceEqDiff, Int.reduceLT, Int.reduceEq, Int.reduceNeg, Int.reduceAdd, Int.reduceMul, Nat.reduceMul, ms_n, ms_i, ms_l, ms_p, PM, fxM hF]
  refine cal_of rfl (m_isPart hF (by rw [hcm.1]; omega) (fun hh => ?_) (fun hh => ?_))
  · rw [hcm.1] at hh
    simp (decide := true) only [RR, ms_app, toList_some, toList_none, if_true, if_false, true_and, and_true, cond_true, sm0, sm1, sm1l, sm2, lc_lt, lc_gt, lc_eq, Int.toNat_natCast, Int.reduceToNat, Nat.reduceAdd, Nat.reduceEqDiff, Int.reduceLT, Int.reduceEq, Int.reduceNeg, Int.reduceAdd, Int.reduceMul, Nat.reduceMul, ms_n, ms_i, ms_l, ms_p, PM]
    refine cal_of rfl (m_isIn ?_)
    simp (decide := true) only [RR, ms_app, toList_some, toList_none, if_true, if_false, true_and, and_true, cond_true, sm0, sm1, sm1l, sm2, lc_lt, lc_gt, lc_eq, Int.toNat_natCast, Int.reduceToNat, Nat.reduceAdd, Nat.reduceEqDiff, Int.reduceLT, Int.reduceEq, Int.reduceNeg, Int.reduceAdd, Int.reduceMul, Nat.reduceMul, ms_n, ms_i, ms_l, ms_p, PM]
    by_cases b0 : 0 ≤ b ∧ b ≤ 1
    · rw [if_pos b0, if_neg (by decide)]
      obtain ⟨p, rfl⟩ := Int.eq_ofNat_of_zero_le hh.1
      have hp : p < C.1 := by omega
      refine At.blk rfl rfl rfl fun sx => ?_
      simp (decide := true) only [RR, ms_app, toList_some, toList_none, if_true, if_false, true_and, and_true, cond_true, sm0, sm1, sm1l, sm2, lc_lt, lc_gt, lc_eq, Int.toNat_natCast, Int.reduceToNat, Nat.reduceAdd, Nat.reduceEqDiff, Int.reduceLT, Int.reduceEq, Int.reduceNeg, Int.reduceAdd, Int.reduceMul, Nat.reduceMul, ms_n, ms_i, ms_l, ms_p, PM]
      refine cal_of rfl (m_laysFits hF hC hp hcm hw hsm hS hV h53 h9 (fun σ1 f1 L => ?_))
      have hF1 := hF.fr f1 rfl
      have e0 : σ1 182 0 = w.1 := (f1 182 0 rfl).trans hsm.1
      simp (decide := true) only [RR, ms_app, toList_some, toList_none, if_true, if_false, true_and, and_true, cond_true, sm0, sm1, sm1l, sm2, lc_lt, lc_gt, lc_eq, Int.toNat_natCast, Int.reduceToNat, Nat.reduceAdd, Nat.reduceEqDiff, Int.reduceLT, Int.reduceEq, Int.reduceNeg, Int.reduceAdd, Int.reduceMul, Nat.reduceMul, ms_n, ms_i, ms_l, ms_p, PM]
      have six : ∀ (σ' : mM) (few x5 : Int) (o6 : Option mV), Fr mrL mrT σ σ' → (telB C w S p (telL C w S p)).1 ≠ -1 → few = (telB C w S p (telL C w S p)).2 → At (d + 10) 225 6 [some (.inr (.inr 146)), some (.inl (p : Int)), some (.inl b), some (.inl (telB C w S p (telL C w S p)).1), some (.inl few), some (.inl x5), o6] [] σ' K := by
        intro σ' few x5 o6 fr hne hfew
        refine At.blk rfl rfl rfl fun sx => ?_
        simp (decide := true) only [RR, ms_app, toList_some, toList_none, if_true, if_false, true_and, and_true, cond_true, sm0, sm1, sm1l, sm2, lc_lt, lc_gt, lc_eq, Int.toNat_natCast, Int.reduceToNat, Nat.reduceAdd, Nat.reduceEqDiff, Int.reduceLT, Int.reduceEq, Int.reduceNeg, Int.reduceAdd, Int.reduceMul, Nat.reduceMul, ms_n, ms_i, ms_l, ms_p, PM]
        rw [if_neg hne]
        refine At.blk rfl rfl rfl fun sx => ?_
        simp (decide := true) only [RR, ms_app, toList_some, toList_none, if_true, if_false, true_and, and_true, cond_true, sm0, sm1, sm1l, sm2, lc_lt, lc_gt, lc_eq, Int.toNat_natCast, Int.reduceToNat, Nat.reduceAdd, Nat.reduceEqDiff, Int.reduceLT, Int.reduceEq, Int.reduceNeg, Int.reduceAdd, Int.reduceMul, Nat.reduceMul, ms_n, ms_i, ms_l, ms_p, PM]
        by_cases b2 : b = 0
        · rw [if_pos b2]
          refine At.blk rfl rfl rfl fun sx => ?_
          simp (decide := true) only [RR, ms_app, toList_some, toList_none, if_true, if_false, true_and, and_true, cond_true, sm0, sm1, sm1l, sm2, lc_lt, lc_gt, lc_eq, Int.toNat_natCast, Int.reduceToNat, Nat.reduceAdd, Nat.reduceEqDiff, Int.reduceLT, Int.reduceEq, Int.reduceNeg, Int.reduceAdd, Int.reduceMul, Nat.reduceMul, ms_n, ms_i, ms_l, ms_p, PM]
          exact hK σ' _ fr ⟨fun _ => by rw [if_pos b2, Int.toNat_natCast], fun h => absurd (by omega) h⟩
        · rw [if_neg b2]
          refine At.blk rfl rfl rfl fun sx => ?_
          simp (decide := true) only [RR, ms_app, toList_some, toList_none, if_true, if_false, true_and, and_true, cond_true, sm0, sm1, sm1l, sm2, lc_lt, lc_gt, lc_eq, Int.toNat_natCast, Int.reduceToNat, Nat.reduceAdd, Nat.reduceEqDiff, Int.reduceLT, Int.reduceEq, Int.reduceNeg, Int.reduceAdd, Int.reduceMul, Nat.reduceMul, ms_n, ms_i, ms_l, ms_p, PM]
          refine At.blk rfl rfl rfl fun sx => ?_
          simp (decide := true) only [RR, ms_app, toList_some, toList_none, if_true, if_false, true_and, and_true, cond_true, sm0, sm1, sm1l, sm2, lc_lt, lc_gt, lc_eq, Int.toNat_natCast, Int.reduceToNat, Nat.reduceAdd, Nat.reduceEqDiff, Int.reduceLT, Int.reduceEq, Int.reduceNeg, Int.reduceAdd, Int.reduceMul, Nat.reduceMul, ms_n, ms_i, ms_l, ms_p, PM]
          exact hK σ' _ fr ⟨fun _ => by rw [if_neg b2, Int.toNat_natCast, hfew], fun h => absurd (by omega) h⟩
      have six0 : ∀ (σ' : mM) (few x5 : Int) (o6 : Option mV), Fr mrL mrT σ σ' → telL C w S p = 0 → At (d + 10) 225 6 [some (.inr (.inr 146)), some (.inl (p : Int)), some (.inl b), some (.inl (-1)), some (.inl few), some (.inl x5), o6] [] σ' K := by
        intro σ' few x5 o6 fr h0
        refine At.blk rfl rfl rfl fun sx => ?_
        simp (decide := true) only [RR, ms_app, toList_some, toList_none, if_true, if_false, true_and, and_true, cond_true, sm0, sm1, sm1l, sm2, lc_lt, lc_gt, lc_eq, Int.toNat_natCast, Int.reduceToNat, Nat.reduceAdd, Nat.reduceEqDiff, Int.reduceLT, Int.reduceEq, Int.reduceNeg, Int.reduceAdd, Int.reduceMul, Nat.reduceMul, ms_n, ms_i, ms_l, ms_p, PM]
        refine At.blk rfl rfl rfl fun sx => ?_
        simp (decide := true) only [RR, ms_app, toList_some, toList_none, if_true, if_false, true_and, and_true, cond_true, sm0, sm1, sm1l, sm2, lc_lt, lc_gt, lc_eq, Int.toNat_natCast, Int.reduceToNat, Nat.reduceAdd, Nat.reduceEqDiff, Int.reduceLT, Int.reduceEq, Int.reduceNeg, Int.reduceAdd, Int.reduceMul, Nat.reduceMul, ms_n, ms_i, ms_l, ms_p, PM]
        refine hK σ' _ fr ⟨fun _ => ?_, fun _ => rfl⟩
        rw [Int.toNat_natCast, h0]
        by_cases b2 : b = 0
        · rw [if_pos b2]; rfl
        · rw [if_neg b2]; rfl
      have e62 := L.2.2
      by_cases e1 : bitsN (fitB C w S p) 21 = 0
      · have hL0 : telL C w S p = 0 := by unfold telL; rw [if_pos e1]
        rw [fit_none e1] at e62
        refine At.blk rfl rfl rfl fun sx => ?_
        simp (decide := true) only [RR, ms_app, toList_some, toList_none, if_true, if_false, true_and, and_true, cond_true, sm0, sm1, sm1l, sm2, lc_lt, lc_gt, lc_eq, Int.toNat_natCast, Int.reduceToNat, Nat.reduceAdd, Nat.reduceEqDiff, Int.reduceLT, Int.reduceEq, Int.reduceNeg, Int.reduceAdd, Int.reduceMul, Nat.reduceMul, ms_n, ms_i, ms_l, ms_p, PM, fxM hF1, e62]
        exact six0 σ1 _ _ _ f1 hL0
      · have hLL : telL C w S p = lstN w 30 := by unfold telL; rw [if_neg e1]
        obtain ⟨l1, l2, l3, l4⟩ := lstN_le (L := 30) h9 (by decide)
        rw [hLL] at six six0
        generalize lstN w 30 = N at *
        have pos := fit_some e1
        have loop : ∀ m k : Nat, N - k = m → k ≤ N → ∀ (σ' : mM) (few : Int) (o6 : Option mV), Fr [192] [] σ1 σ' → (0 < k → few = (telB C w S p k).2) → At (d + 10) 225 3 [some (.inr (.inr 146)), some (.inl (p : Int)), some (.inl b), some (.inl (telB C w S p k).1), some (.inl few), some (.inl ((k + 1 : Nat) : Int)), o6] [] σ' K := by
          intro m
          induction m with
          | zero =>
            intro k hk hk2 σ' few o6 fr hfew
            obtain rfl : k = N := by omega
            have hF' := hF1.fr fr rfl
            have F : Fr mrL mrT σ σ' := f1.trans (fr.mono rfl)
            have e62' : σ' 146 62 = sumN (fitI C w S p) 21 := (fr 146 62 rfl).trans e62
            have e0' : σ' 182 0 = w.1 := (fr 182 0 rfl).trans e0
            refine At.blk rfl rfl rfl fun sx => ?_
            simp (decide := true) only [RR, ms_app, toList_some, toList_none, if_true, if_false, true_and, and_true, cond_true, sm0, sm1, sm1l, sm2, lc_lt, lc_gt, lc_eq, Int.toNat_natCast, Int.reduceToNat, Nat.reduceAdd, Nat.reduceEqDiff, Int.reduceLT, Int.reduceEq, Int.reduceNeg, Int.reduceAdd, Int.reduceMul, Nat.reduceMul, ms_n, ms_i, ms_l, ms_p, PM, fxM hF', e62']
            rw [if_pos pos]
            refine cal_of rfl (m_isAhead hF' (by omega) (by decide) (by decide) (fun h1 => by omega) (fun h1 => ?_))
            simp (decide := true) only [RR, ms_app, toList_some, toList_none, if_true, if_false, true_and, and_true, cond_true, sm0, sm1, sm1l, sm2, lc_lt, lc_gt, lc_eq, Int.toNat_natCast, Int.reduceToNat, Nat.reduceAdd, Nat.reduceEqDiff, Int.reduceLT, Int.reduceEq, Int.reduceNeg, Int.reduceAdd, Int.reduceMul, Nat.reduceMul, ms_n, ms_i, ms_l, ms_p, PM]
            rcases telB_n (C := C) (w := w) (S := S) (p := p) k with ⟨t1, t2⟩ | ⟨t1, t2⟩
            · rw [t2]
              exact six0 σ' _ _ _ F t1
            · exact six σ' _ _ _ F (by omega) (hfew t1)
          | succ m ih =>
            intro k hk hk2 σ' few o6 fr hfew
            have hF' := hF1.fr fr rfl
            have e62' : σ' 146 62 = sumN (fitI C w S p) 21 := (fr 146 62 rfl).trans e62
            have e0' : σ' 182 0 = w.1 := (fr 182 0 rfl).trans e0
            have w1 : Unit → w32 (((k + 1 : Nat) : Int) + 1) = ((k + 1 + 1 : Nat) : Int) := fun _ => by rw [w32_small (by omega) (by omega)]; omega
            have L' : LfM σ' C w S p 21 := L.cg (fr.row 191 rfl) (fr.row 190 rfl) (fr 146 62 rfl)
            refine At.blk rfl rfl rfl fun sx => ?_
            simp (decide := true) only [RR, ms_app, toList_some, toList_none, if_true, if_false, true_and, and_true, cond_true, sm0, sm1, sm1l, sm2, lc_lt, lc_gt, lc_eq, Int.toNat_natCast, Int.reduceToNat, Nat.reduceAdd, Nat.reduceEqDiff, Int.reduceLT, Int.reduceEq, Int.reduceNeg, Int.reduceAdd, Int.reduceMul, Nat.reduceMul, ms_n, ms_i, ms_l, ms_p, PM, fxM hF', e62']
            rw [if_pos pos]
            refine cal_of rfl (m_isAhead hF' (by omega) (by decide) (by decide) (fun h1 => ?_) (fun h1 => by omega))
            simp (decide := true) only [RR, ms_app, toList_some, toList_none, if_true, if_false, true_and, and_true, cond_true, sm0, sm1, sm1l, sm2, lc_lt, lc_gt, lc_eq, Int.toNat_natCast, Int.reduceToNat, Nat.reduceAdd, Nat.reduceEqDiff, Int.reduceLT, Int.reduceEq, Int.reduceNeg, Int.reduceAdd, Int.reduceMul, Nat.reduceMul, ms_n, ms_i, ms_l, ms_p, PM]
            refine cal_of rfl (m_mostAlike (by omega) hF' hC hp hw h9 L' (fun σ2 f2 => ?_))
            simp (decide := true) only [RR, ms_app, toList_some, toList_none, if_true, if_false, true_and, and_true, cond_true, sm0, sm1, sm1l, sm2, lc_lt, lc_gt, lc_eq, Int.toNat_natCast, Int.reduceToNat, Nat.reduceAdd, Nat.reduceEqDiff, Int.reduceLT, Int.reduceEq, Int.reduceNeg, Int.reduceAdd, Int.reduceMul, Nat.reduceMul, ms_n, ms_i, ms_l, ms_p, PM]
            have five : ∀ (few : Int) (x : Int), x = (telB C w S p (k + 1)).1 → few = (telB C w S p (k + 1)).2 → At (d + 10) 225 5 [some (.inr (.inr 146)), some (.inl (p : Int)), some (.inl b), some (.inl x), some (.inl few), some (.inl ((k + 1 : Nat) : Int)), some (.inl (mosT C w S p (k + 1)))] [] σ2 K := by
              intro few x hx hf
              refine At.blk rfl rfl rfl fun sx => ?_
              simp (decide := true) only [RR, ms_app, toList_some, toList_none, if_true, if_false, true_and, and_true, cond_true, sm0, sm1, sm1l, sm2, lc_lt, lc_gt, lc_eq, Int.toNat_natCast, Int.reduceToNat, Nat.reduceAdd, Nat.reduceEqDiff, Int.reduceLT, Int.reduceEq, Int.reduceNeg, Int.reduceAdd, Int.reduceMul, Nat.reduceMul, ms_n, ms_i, ms_l, ms_p, PM, w1 ()]
              rw [hx]
              exact ih (k + 1) (by omega) (by omega) σ2 few _ (fr.trans f2) (fun _ => hf)
            have yes : ((telB C w S p k).1 = -1 ∨ mosT C w S p (k + 1) < (telB C w S p k).2) → At (d + 10) 225 4 [some (.inr (.inr 146)), some (.inl (p : Int)), some (.inl b), some (.inl (telB C w S p k).1), some (.inl few), some (.inl ((k + 1 : Nat) : Int)), some (.inl (mosT C w S p (k + 1)))] [] σ2 K := by
              intro hc
              refine At.blk rfl rfl rfl fun sx => ?_
              simp (decide := true) only [RR, ms_app, toList_some, toList_none, if_true, if_false, true_and, and_true, cond_true, sm0, sm1, sm1l, sm2, lc_lt, lc_gt, lc_eq, Int.toNat_natCast, Int.reduceToNat, Nat.reduceAdd, Nat.reduceEqDiff, Int.reduceLT, Int.reduceEq, Int.reduceNeg, Int.reduceAdd, Int.reduceMul, Nat.reduceMul, ms_n, ms_i, ms_l, ms_p, PM]
              exact five _ _ (by rw [telB_s, if_pos hc]) (by rw [telB_s, if_pos hc])
            by_cases c1 : (telB C w S p k).1 = -1
            · rw [if_pos c1]; exact yes (Or.inl c1)
            · rw [if_neg c1]
              have kp : 0 < k := by
                rcases telB_n (C := C) (w := w) (S := S) (p := p) k with ⟨t1, t2⟩ | ⟨t1, t2⟩
                · rw [t2] at c1; exact absurd rfl c1
                · exact t1
              have hfew := hfew kp
              subst hfew
              by_cases c2 : mosT C w S p (k + 1) < (telB C w S p k).2
              · rw [if_pos c2]; exact yes (Or.inr c2)
              · rw [if_neg c2]
                exact five _ _ (by rw [telB_s, if_neg (by omega)]) (by rw [telB_s, if_neg (by omega)])
        exact loop N 0 rfl (by omega) σ1 0 none Fr.same (fun h => absurd h (by decide))
    · rw [if_neg b0, if_pos rfl]
      exact no (by omega)
  · rw [hcm.1] at hh
    simp (decide := true) only [RR, ms_app, toList_some, toList_none, if_true, if_false, true_and, and_true, cond_true, sm0, sm1, sm1l, sm2, lc_lt, lc_gt, lc_eq, Int.toNat_natCast, Int.reduceToNat, Nat.reduceAdd, Nat.reduceEqDiff, Int.reduceLT, Int.reduceEq, Int.reduceNeg, Int.reduceAdd, Int.reduceMul, Nat.reduceMul, ms_n, ms_i, ms_l, ms_p, PM]
    exact no (by omega)
end
theorem p_tells {σ : mM} (h : Inv σ) (a b : Int) (_ : inR a) (_ : inR b) : PairI Inv 124 225 [.inl a, .inl b] σ := by
  obtain ⟨C, w, l, hW⟩ := h.wrl
  obtain ⟨S, hX, hM, hV⟩ := h.seen (C := C) hW.2.1.1
  exact ro_pair2 (R := telV C w S a b) h hW telV_uniq (x_tells h.1 hW hX hV (fun σ' v f hv => ⟨v, rfl, hv, f.mono rfl⟩)) (fun σ1 h1 hW1 f1 => m_tells h1.1 hW1 (hM.cg (f1 146 58 rfl) (f1.row 189 rfl)) hV h1.th0 (fun σ' v f hv => ⟨v, rfl, hv, f.mono rfl⟩))
