/-! NIGHTS one after the other -/
def ntM (C : Ct) (w : Sk) : Nat → Sk
  | 0 => w
  | k + 1 => nxM C (ntM C w k)
def kpA (C : Ct) (w : Sk) (l : Kp) : Nat → Kp
  | 0 => l
  | k + 1 => kpN C (ntM C w k) (kpA C w l k) C.1
def rosN (C : Ct) (w : Sk) (n : Nat) : Int := sumN (fun k => roseP C (ntM C w k)) n
def rbN (C : Ct) (w : Sk) (n : Nat) : Int := sumN (fun k => sumN (rbI C (ntM C w k)) C.1) n
def rvN (C : Ct) (w : Sk) (n : Nat) : Int := sumN (fun k => sumN (rrI C (ntM C w k)) C.1) n
theorem ntM_night {C : Ct} {w : Sk} : ∀ k : Nat, (ntM C w k).1 = w.1 + k
  | 0 => by simp [ntM]
  | k + 1 => by
    show (ntM C w k).1 + 1 = _
    rw [ntM_night k]; omega
theorem ntM_V {C : Ct} {w : Sk} (h : SkV C w) : ∀ k : Nat, w.1 + k ≤ 5000 → SkV C (ntM C w k)
  | 0, _ => h
  | k + 1, hk => by
    have := h.1
    refine SkV.nx (ntM_V h k (by omega)) ?_
    rw [ntM_night k]; omega
theorem rosN_le {C : Ct} {w : Sk} (h : CtV C) (n : Nat) : 0 ≤ rosN C w n ∧ rosN C w n ≤ 7 * n := sumN_le n (fun j _ => roseP_le h)
theorem rbN_le {C : Ct} {w : Sk} (h : CtV C) (n : Nat) : 0 ≤ rbN C w n ∧ rbN C w n ≤ 7 * n := sumN_le n (fun j _ => by
  have := sumN_le (f := rbI C (ntM C w j)) (c := 1) C.1 (fun j _ => rb_le)
  have := h.1
  omega)
theorem rvN_le {C : Ct} {w : Sk} (h : CtV C) (n : Nat) : 0 ≤ rvN C w n ∧ rvN C w n ≤ 7 * n := sumN_le n (fun j _ => by
  have := sumN_le (f := rrI C (ntM C w j)) (c := 1) C.1 (fun j _ => rr_le)
  have := h.1
  omega)
def CtrN (σ σ' : mM) (j : Nat) (v : Int) : Prop := 0 ≤ σ 146 j → σ 146 j ≤ 900000 → σ' 146 j = σ 146 j + v
theorem CtrN.go {σ σ' σ2 : mM} {j : Nat} {u v t : Int} (h : CtrN σ σ' j u) (h2 : CtrM σ' σ2 j v) (hu : 0 ≤ u ∧ u ≤ 90000) (ht : t = u + v) : CtrN σ σ2 j t := by
  intro a b
  have := h a b
  rw [h2 (by omega) (by omega), this, ht]; omega
/-- the model's row behind 29, after n nights -/
def KN (th : Int) (σ σ' : mM) (C : Ct) (w : Sk) (l : Kp) (n : Nat) : Prop := (th = 1 ∧ ∀ j, 29 ≤ j → σ' 182 j = σ 182 j) ∨ (th = 0 ∧ KpM σ' (kpA C w l n) ∧ KpV (kpA C w l n))
theorem KN.on {th : Int} {σ σ' : mM} {C : Ct} {w : Sk} {l : Kp} {n : Nat} (h : KN th σ σ' C w l n) (h9 : th = 0 → 0 ≤ w.1 ∧ w.1 + n ≤ 999) : KK th σ' σ' C (ntM C w n) (kpA C w l n) 0 := by
  rcases h with ⟨h1, h2⟩ | ⟨h1, h2, h3⟩
  · exact Or.inl ⟨h1, fun _ _ => rfl⟩
  · have := h9 h1
    exact Or.inr ⟨h1, h2, h3, by rw [ntM_night]; omega⟩
theorem KN.next {th : Int} {σ σ' σ2 : mM} {C : Ct} {w : Sk} {l : Kp} {n : Nat} (h : KN th σ σ' C w l n) (h2 : KK th σ' σ2 C (ntM C w n) (kpA C w l n) C.1) : KN th σ σ2 C w l (n + 1) := by
  rcases h2 with ⟨a1, a2⟩ | ⟨a1, a2, a3, a4⟩
  · rcases h with ⟨h1, h2⟩ | ⟨h1, h2, h3⟩
    · exact Or.inl ⟨h1, fun j hj => (a2 j hj).trans (h2 j hj)⟩
    · omega
  · exact Or.inr ⟨a1, a2, a3⟩
section
variable {d : Nat} {σ : mM} {K : Option mV → mM → Prop}
theorem m_nightsGo {th : Int} {C : Ct} {w : Sk} {l : Kp} {n : Nat} (hF : Fix σ) (hC : CtV C) (hw : SkV C w) (hn : n ≤ 200) (hw9 : w.1 ≤ 1100) (h9 : th = 0 → w.1 + n ≤ 999) (hc : CtM σ C) (hs : SkM σ C w) (hth : σ 146 53 = th) (hkk : KN th σ σ C w l 0)
    (hK : ∀ σ', Fr mnL mnT σ σ' → SkM σ' C (ntM C w n) → KN th σ σ' C w l n → CtrN σ σ' 54 (rosN C w n) → CtrN σ σ' 55 (rbN C w n) → CtrN σ σ' 56 (rvN C w n) → K none σ') : Mt (d + 10) 196 [.inr (.inr 146), .inl (n : Int)] σ K := by
  refine Mt.go (lv := [some (.inr (.inr 146)), some (.inl (n : Int)), none]) rfl rfl rfl ?_
  have wv := hw.1
  refine At.blk rfl rfl rfl fun sx => ?_
  simp (decide := true) only [RR, ms_app, toList_some, toList_none, if_true, if_false, true_and, and_true, cond_true, sm0, sm1, sm1l, sm2, lc_lt, lc_gt, lc_eq, Int.toNat_natCast, Int.reduceToNat, Nat.reduceAdd, Nat.reduceEqDiff, Int.reduceLT, Int.reduceEq, Int.reduceNeg, Int.reduceAdd, Int.reduceMul, Nat.reduceMul, ms_n, ms_i, ms_l, ms_p, PM]
  have loop : ∀ m k : Nat, n - k = m → k ≤ n → ∀ σ', Fr mnL mnT σ σ' → SkM σ' C (ntM C w k) → KN th σ σ' C w l k → CtrN σ σ' 54 (rosN C w k) → CtrN σ σ' 55 (rbN C w k) → CtrN σ σ' 56 (rvN C w k) → At (d + 9) 196 1 [some (.inr (.inr 146)), some (.inl (n : Int)), some (.inl (k : Int))] [] σ' K := by
    intro m
    induction m with
    | zero =>
      intro k hk hk2 σ' fr s k4 c4 c5 c6
      obtain rfl : k = n := by omega
      refine At.blk rfl rfl rfl fun sx => ?_
      simp (decide := true) only [RR, ms_app, toList_some, toList_none, if_true, if_false, true_and, and_true, cond_true, sm0, sm1, sm1l, sm2, lc_lt, lc_gt, lc_eq, Int.toNat_natCast, Int.reduceToNat, Nat.reduceAdd, Nat.reduceEqDiff, Int.reduceLT, Int.reduceEq, Int.reduceNeg, Int.reduceAdd, Int.reduceMul, Nat.reduceMul, ms_n, ms_i, ms_l, ms_p, PM]
      rw [if_neg (by omega)]
      refine At.blk rfl rfl rfl fun sx => ?_
      simp (decide := true) only [RR, ms_app, toList_some, toList_none, if_true, if_false, true_and, and_true, cond_true, sm0, sm1, sm1l, sm2, lc_lt, lc_gt, lc_eq, Int.toNat_natCast, Int.reduceToNat, Nat.reduceAdd, Nat.reduceEqDiff, Int.reduceLT, Int.reduceEq, Int.reduceNeg, Int.reduceAdd, Int.reduceMul, Nat.reduceMul, ms_n, ms_i, ms_l, ms_p, PM]
      exact hK σ' fr s k4 c4 c5 c6
    | succ m ih =>
      intro k hk hk2 σ' fr s k4 c4 c5 c6
      have hF' := hF.fr fr rfl
      have w1 : w32 ((k : Int) + 1) = ((k + 1 : Nat) : Int) := by rw [w32_small (by omega) (by omega)]; omega
      refine At.blk rfl rfl rfl fun sx => ?_
      simp (decide := true) only [RR, ms_app, toList_some, toList_none, if_true, if_false, true_and, and_true, cond_true, sm0, sm1, sm1l, sm2, lc_lt, lc_gt, lc_eq, Int.toNat_natCast, Int.reduceToNat, Nat.reduceAdd, Nat.reduceEqDiff, Int.reduceLT, Int.reduceEq, Int.reduceNeg, Int.reduceAdd, Int.reduceMul, Nat.reduceMul, ms_n, ms_i, ms_l, ms_p, PM]
      rw [if_pos (by omega)]
      refine cal_of rfl (m_nightGoes hF' hC (ntM_V hw k (by omega)) (by rw [ntM_night]; omega) (hc.mn fr) s ((fr 146 53 rfl).trans hth) (k4.on (fun h => by have := h9 h; omega)) (fun σ2 f2 s2 k2 d4 d5 d6 => ?_))
      simp (decide := true) only [RR, ms_app, toList_some, toList_none, if_true, if_false, true_and, and_true, cond_true, sm0, sm1, sm1l, sm2, lc_lt, lc_gt, lc_eq, Int.toNat_natCast, Int.reduceToNat, Nat.reduceAdd, Nat.reduceEqDiff, Int.reduceLT, Int.reduceEq, Int.reduceNeg, Int.reduceAdd, Int.reduceMul, Nat.reduceMul, ms_n, ms_i, ms_l, ms_p, PM, w1]
      have b4 := rosN_le (w := w) hC k
      have b5 := rbN_le (w := w) hC k
      have b6 := rvN_le (w := w) hC k
      exact ih (k + 1) (by omega) (by omega) σ2 (fr.trans f2) s2 (k4.next k2) (c4.go d4 (by omega) rfl) (c5.go d5 (by omega) rfl) (c6.go d6 (by omega) rfl)
  exact loop n 0 rfl (by omega) σ Fr.same hs hkk (fun _ _ => by simp [rosN, sumN]) (fun _ _ => by simp [rbN, sumN]) (fun _ _ => by simp [rvN, sumN])
end
