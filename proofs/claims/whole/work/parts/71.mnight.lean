def mdW (C : Ct) (w : Sk) (k : Nat) : Sk := (w.1, fun j => if j < k then thnP C w j else w.2.1 j, w.2.2.1, w.2.2.2.1, fun j => if j < k then -1 else w.2.2.2.2 j)
def CtrM (σ σ' : mM) (j : Nat) (v : Int) : Prop := 0 ≤ σ 146 j → σ 146 j ≤ 1000000 → σ' 146 j = σ 146 j + v
def rbI (C : Ct) (w : Sk) (p : Nat) : Int := if readP C w p = thnP C w p then 1 else 0
def rrI (C : Ct) (w : Sk) (p : Nat) : Int := if rivP C w p = thnP C w p then 1 else 0
theorem rb_le {C : Ct} {w : Sk} {p : Nat} : 0 ≤ rbI C w p ∧ rbI C w p ≤ 1 := by unfold rbI; split <;> omega
theorem rr_le {C : Ct} {w : Sk} {p : Nat} : 0 ≤ rrI C w p ∧ rrI C w p ≤ 1 := by unfold rrI; split <;> omega
theorem CtrM.inc {σ σ' : mM} {j : Nat} {v : Int} (h : CtrM σ σ' j v) (hv : 0 ≤ v ∧ v ≤ 100) : CtrM σ (mj_set σ' 146 j (w32 (σ' 146 j + 1))) j (v + 1) := by
  intro h1 h2
  have h3 := h h1 h2
  rw [ms_app, if_pos rfl, if_pos rfl, h3, w32_small (by omega) (by omega)]
  omega
theorem CtrM.oth {σ σ' : mM} {j i : Nat} {v x : Int} (h : CtrM σ σ' j v) (hj : j ≠ i) : CtrM σ (mj_set σ' 146 i x) j v := by
  intro h1 h2
  rw [ms_app, if_pos rfl, if_neg hj]; exact h h1 h2
theorem CtrM.cg {σ σ' σ2 : mM} {j : Nat} {v : Int} (h : CtrM σ σ' j v) (e : σ2 146 j = σ' 146 j) : CtrM σ σ2 j v := fun h1 h2 => e.trans (h h1 h2)
def mnL : List Nat := [182, 184, 185, 186, 187, 216]
def mnT : List (Nat × Nat) := [(146, 95), (146, 46), (146, 54), (146, 55), (146, 56)]
theorem SkM.oth {σ : mM} {C : Ct} {w : Sk} {q k : Nat} {x : Int} (h : SkM σ C w) (hq : q ≠ 182) : SkM (mj_set σ q k x) C w := by
  unfold SkM at *
  rw [ms_row (Ne.symm hq)]; exact h
section
variable {d : Nat} {σ : mM} {K : Option mV → mM → Prop}
theorem CtM.mn {C : Ct} {σ' : mM} (h : CtM σ C) (fr : Fr mnL mnT σ σ') : CtM σ' C := h.cg (fr 173 2 rfl) (fr 178 2 rfl) (fr.row 176 rfl) (fr.row 179 rfl) (fr.row 180 rfl) (fr.row 181 rfl)
theorem m_nightGoes {th : Int} {C : Ct} {w : Sk} {l : Kp} (hF : Fix σ) (hC : CtV C) (hw : SkV C w) (hw9 : w.1 ≤ 4000) (hc : CtM σ C) (hs : SkM σ C w) (hth : σ 146 53 = th) (hkk : KK th σ σ C w l 0)
    (hK : ∀ σ', Fr mnL mnT σ σ' → SkM σ' C (nxM C w) → KK th σ σ' C w l C.1 → CtrM σ σ' 54 (roseP C w) → CtrM σ σ' 55 (sumN (rbI C w) C.1) → CtrM σ σ' 56 (sumN (rrI C w) C.1) → K none σ') : Mt (d + 9) 195 [.inr (.inr 146)] σ K := by
  refine Mt.go (lv := [some (.inr (.inr 146)), none, none]) rfl rfl rfl ?_
  have n7 := hC.1
  have gb := hC.2.1
  refine At.blk rfl rfl rfl fun sx => ?_
  simp (decide := true) only [RR, ms_app, toList_some, toList_none, if_true, if_false, true_and, and_true, cond_true, sm0, sm1, sm1l, sm2, lc_lt, lc_gt, lc_eq, Int.toNat_natCast, Int.reduceToNat, Nat.reduceAdd, Nat.reduceEqDiff, Int.reduceLT, Int.reduceEq, Int.reduceNeg, Int.reduceAdd, Int.reduceMul, Nat.reduceMul, ms_n, ms_i, ms_l, ms_p, PM]
  refine cal_of rfl (m_laysNight hF hC hw hc hs (fun σ0 f0 h0 h1 => ?_))
  simp (decide := true) only [RR, ms_app, toList_some, toList_none, if_true, if_false, true_and, and_true, cond_true, sm0, sm1, sm1l, sm2, lc_lt, lc_gt, lc_eq, Int.toNat_natCast, Int.reduceToNat, Nat.reduceAdd, Nat.reduceEqDiff, Int.reduceLT, Int.reduceEq, Int.reduceNeg, Int.reduceAdd, Int.reduceMul, Nat.reduceMul, ms_n, ms_i, ms_l, ms_p, PM]
  have loop : ∀ m k : Nat, C.1 - k = m → k ≤ C.1 → ∀ (o : Option mV) (σ' : mM), Fr [182] [(146, 54), (146, 55), (146, 56)] σ0 σ' → SkM σ' C (mdW C w k) → KK th σ σ' C w l k → CtrM σ σ' 54 (sumN (roseI C w) k) → CtrM σ σ' 55 (sumN (rbI C w) k) → CtrM σ σ' 56 (sumN (rrI C w) k) → At (d + 8) 195 1 [some (.inr (.inr 146)), some (.inl (k : Int)), o] [] σ' K := by
    intro m
    induction m with
    | zero =>
      intro k hk hk2 o σ' fr hS hk4 c4 c5 c6
      obtain rfl : k = C.1 := by omega
      have F : Fr mnL mnT σ σ' := (f0.mono rfl).trans (fr.mono rfl)
      have hF' := hF.fr F rfl
      have wv := hw.1
      have e0 : σ' 182 0 = w.1 := hS.1
      refine At.blk rfl rfl rfl fun sx => ?_
      simp (decide := true) only [RR, ms_app, toList_some, toList_none, if_true, if_false, true_and, and_true, cond_true, sm0, sm1, sm1l, sm2, lc_lt, lc_gt, lc_eq, Int.toNat_natCast, Int.reduceToNat, Nat.reduceAdd, Nat.reduceEqDiff, Int.reduceLT, Int.reduceEq, Int.reduceNeg, Int.reduceAdd, Int.reduceMul, Nat.reduceMul, ms_n, ms_i, ms_l, ms_p, PM]
      refine cal_of rfl (m_partMany hF' ?_)
      simp (decide := true) only [RR, ms_app, toList_some, toList_none, if_true, if_false, true_and, and_true, cond_true, sm0, sm1, sm1l, sm2, lc_lt, lc_gt, lc_eq, Int.toNat_natCast, Int.reduceToNat, Nat.reduceAdd, Nat.reduceEqDiff, Int.reduceLT, Int.reduceEq, Int.reduceNeg, Int.reduceAdd, Int.reduceMul, Nat.reduceMul, ms_n, ms_i, ms_l, ms_p, PM, (hc.mn F).1]
      rw [if_neg (by omega)]
      refine At.blk rfl rfl rfl fun sx => ?_
      simp (decide := true) only [RR, ms_app, toList_some, toList_none, if_true, if_false, true_and, and_true, cond_true, sm0, sm1, sm1l, sm2, lc_lt, lc_gt, lc_eq, Int.toNat_natCast, Int.reduceToNat, Nat.reduceAdd, Nat.reduceEqDiff, Int.reduceLT, Int.reduceEq, Int.reduceNeg, Int.reduceAdd, Int.reduceMul, Nat.reduceMul, ms_n, ms_i, ms_l, ms_p, PM, fxM hF', e0]
      rw [w32_small (by omega) (by omega)]
      refine hK _ (F.setr rfl) ⟨by rw [ms_app, if_pos rfl, if_pos rfl]; rfl, fun p hp => ?_⟩ (hk4.cg (fun j hj => by rw [ms_app, if_pos rfl, if_neg (by omega)])) (c4.cg rfl) (c5.cg rfl) (c6.cg rfl)
      have := hS.2 p hp
      simp only [mdW, if_pos hp] at this
      rw [ms_app, if_pos rfl, if_neg (by omega), ms_app, if_pos rfl, if_neg (by omega), ms_app, if_pos rfl, if_neg (by omega), ms_app, if_pos rfl, if_neg (by omega)]
      exact this
    | succ m ih =>
      intro k hk hk2 o σ' fr hS hk4 c4 c5 c6
      have hk3 : k < C.1 := by omega
      have F : Fr mnL mnT σ σ' := (f0.mono rfl).trans (fr.mono rfl)
      have hF' := hF.fr F rfl
      have b4 := sumN_le (f := roseI C w) (c := 1) k (fun j _ => rose_le)
      have b5 := sumN_le (f := rbI C w) (c := 1) k (fun j _ => rb_le)
      have b6 := sumN_le (f := rrI C w) (c := 1) k (fun j _ => rr_le)
      obtain ⟨a1, a2, a3, a4⟩ := hS.2 k hk3
      have a1 : σ' 182 (1 + 4 * k) = w.2.1 k := by rw [a1]; simp only [mdW, if_neg (Nat.lt_irrefl k)]
      have tk : σ' 187 k = thnP C w k := (fr 187 k rfl).trans (h1 k hk3)
      have rk : σ' 185 k = readP C w k := (fr 185 k rfl).trans (h0 k hk3).1
      have vk : σ' 186 k = rivP C w k := (fr 186 k rfl).trans (h0 k hk3).2.1
      have five : ∀ (σ5 : mM) (o5 : Option mV), Fr [182] [(146, 54), (146, 55), (146, 56)] σ0 σ5 → SkM σ5 C (mdW C w (k + 1)) → KK th σ σ5 C w l (k + 1) → CtrM σ σ5 54 (sumN (roseI C w) (k + 1)) → CtrM σ σ5 55 (sumN (rbI C w) (k + 1)) → CtrM σ σ5 56 (sumN (rrI C w) (k + 1)) → At (d + 8) 195 5 [some (.inr (.inr 146)), some (.inl (k : Int)), o5] [] σ5 K := by
        intro σ5 o5 f5 s5 k5 d4 d5 d6
        refine At.blk rfl rfl rfl fun sx => ?_
        simp (decide := true) only [RR, ms_app, toList_some, toList_none, if_true, if_false, true_and, and_true, cond_true, sm0, sm1, sm1l, sm2, lc_lt, lc_gt, lc_eq, Int.toNat_natCast, Int.reduceToNat, Nat.reduceAdd, Nat.reduceEqDiff, Int.reduceLT, Int.reduceEq, Int.reduceNeg, Int.reduceAdd, Int.reduceMul, Nat.reduceMul, ms_n, ms_i, ms_l, ms_p, PM]
        rw [w32_small (by omega) (by omega)]
        exact ih (k + 1) (by omega) (by omega) o5 σ5 f5 s5 k5 d4 d5 d6
      have three : ∀ (σ3 : mM) (was : Int), Fr [182] [(146, 54), (146, 55), (146, 56)] σ0 σ3 → SkM σ3 C (mdW C w (k + 1)) → KK th σ σ3 C w l k → CtrM σ σ3 54 (sumN (roseI C w) k) → CtrM σ σ3 55 (sumN (rbI C w) (k + 1)) → CtrM σ σ3 56 (sumN (rrI C w) (k + 1)) → was = galeI C.2.1 (w.2.1 k) → At (d + 8) 195 3 [some (.inr (.inr 146)), some (.inl (k : Int)), some (.inl was)] [] σ3 K := by
        intro σ3 was f3 s3 k3 d4 d5 d6 hwas
        have F3 : Fr mnL mnT σ σ3 := (f0.mono rfl).trans (f3.mono rfl)
        have hF3 := hF.fr F3 rfl
        have a3 : σ3 182 (1 + 4 * k) = thnP C w k := by rw [(s3.2 k hk3).1]; simp only [mdW, if_pos (Nat.lt_succ_self k)]
        have no : roseI C w k = 0 → At (d + 8) 195 5 [some (.inr (.inr 146)), some (.inl (k : Int)), some (.inl was)] [] σ3 K := by
          intro hr
          refine five σ3 _ f3 s3 (k3.no (by omega)) ?_ d5 d6
          simp only [sumN]
          rw [hr, Int.add_zero]; exact d4
        unfold galeI at hwas
        refine At.blk rfl rfl rfl fun sx => ?_
        simp (decide := true) only [RR, ms_app, toList_some, toList_none, if_true, if_false, true_and, and_true, cond_true, sm0, sm1, sm1l, sm2, lc_lt, lc_gt, lc_eq, Int.toNat_natCast, Int.reduceToNat, Nat.reduceAdd, Nat.reduceEqDiff, Int.reduceLT, Int.reduceEq, Int.reduceNeg, Int.reduceAdd, Int.reduceMul, Nat.reduceMul, ms_n, ms_i, ms_l, ms_p, PM]
        by_cases g1 : C.2.1 ≤ w.2.1 k
        · rw [if_pos g1] at hwas
          rw [if_neg (by omega)]
          exact no (by unfold roseI; rw [if_neg (by omega)])
        · rw [if_neg g1] at hwas
          rw [if_pos hwas]
          refine cal_of rfl (m_isGale hF3 (by omega) (fun h2 => ?_) (fun h2 => ?_))
          · rw [Int.toNat_natCast, a3, (hc.mn F3).2.1] at h2
            have hr : roseI C w k = 1 := by unfold roseI; rw [if_pos ⟨by omega, h2⟩]
            simp (decide := true) only [RR, ms_app, toList_some, toList_none, if_true, if_false, true_and, and_true, cond_true, sm0, sm1, sm1l, sm2, lc_lt, lc_gt, lc_eq, Int.toNat_natCast, Int.reduceToNat, Nat.reduceAdd, Nat.reduceEqDiff, Int.reduceLT, Int.reduceEq, Int.reduceNeg, Int.reduceAdd, Int.reduceMul, Nat.reduceMul, ms_n, ms_i, ms_l, ms_p, PM]
            refine At.blk rfl rfl rfl fun sx => ?_
            simp (decide := true) only [RR, ms_app, toList_some, toList_none, if_true, if_false, true_and, and_true, cond_true, sm0, sm1, sm1l, sm2, lc_lt, lc_gt, lc_eq, Int.toNat_natCast, Int.reduceToNat, Nat.reduceAdd, Nat.reduceEqDiff, Int.reduceLT, Int.reduceEq, Int.reduceNeg, Int.reduceAdd, Int.reduceMul, Nat.reduceMul, ms_n, ms_i, ms_l, ms_p, PM, fxM hF3]
            have hF4 : Fix (mj_set σ3 146 54 (w32 (σ3 146 54 + 1))) := hF3.set rfl
            refine cal_of rfl (m_isKept (σ0 := σ) (th := th) hF4 hC hk3 (by show σ3 146 53 = th; rw [F3 146 53 rfl]; exact hth) (k3.cg (fun j hj => by rw [ms_row (by decide)])) hr (by show σ3 182 0 = w.1; exact s3.1) a3 (fun σ5 f5 g5 k5 => ?_))
            simp (decide := true) only [RR, ms_app, toList_some, toList_none, if_true, if_false, true_and, and_true, cond_true, sm0, sm1, sm1l, sm2, lc_lt, lc_gt, lc_eq, Int.toNat_natCast, Int.reduceToNat, Nat.reduceAdd, Nat.reduceEqDiff, Int.reduceLT, Int.reduceEq, Int.reduceNeg, Int.reduceAdd, Int.reduceMul, Nat.reduceMul, ms_n, ms_i, ms_l, ms_p, PM]
            refine five σ5 _ ((f3.set rfl).trans (f5.mono rfl)) ((s3.oth (q := 146) (by decide)).cg g5 n7) k5 ?_ (CtrM.cg (d5.oth (by decide)) (f5 146 55 rfl)) (CtrM.cg (d6.oth (by decide)) (f5 146 56 rfl))
            simp only [sumN]
            rw [hr]
            exact CtrM.cg (d4.inc (by omega)) (f5 146 54 rfl)
          · rw [Int.toNat_natCast, a3, (hc.mn F3).2.1] at h2
            simp (decide := true) only [RR, ms_app, toList_some, toList_none, if_true, if_false, true_and, and_true, cond_true, sm0, sm1, sm1l, sm2, lc_lt, lc_gt, lc_eq, Int.toNat_natCast, Int.reduceToNat, Nat.reduceAdd, Nat.reduceEqDiff, Int.reduceLT, Int.reduceEq, Int.reduceNeg, Int.reduceAdd, Int.reduceMul, Nat.reduceMul, ms_n, ms_i, ms_l, ms_p, PM]
            exact no (by unfold roseI; rw [if_neg (by omega)])
      have two : ∀ (σ2 : mM) (was : Int), Fr [182] [(146, 54), (146, 55), (146, 56)] σ0 σ2 → SkM σ2 C (mdW C w (k + 1)) → KK th σ σ2 C w l k → CtrM σ σ2 54 (sumN (roseI C w) k) → CtrM σ σ2 55 (sumN (rbI C w) (k + 1)) → CtrM σ σ2 56 (sumN (rrI C w) k) → was = galeI C.2.1 (w.2.1 k) → At (d + 8) 195 2 [some (.inr (.inr 146)), some (.inl (k : Int)), some (.inl was)] [] σ2 K := by
        intro σ2 was f2 s2 k2 d4 d5 d6 hwas
        have F2 : Fr mnL mnT σ σ2 := (f0.mono rfl).trans (f2.mono rfl)
        have hF2 := hF.fr F2 rfl
        have t2 : σ2 187 k = thnP C w k := (f2 187 k rfl).trans (h1 k hk3)
        have v2 : σ2 186 k = rivP C w k := (f2 186 k rfl).trans (h0 k hk3).2.1
        refine At.blk rfl rfl rfl fun sx => ?_
        simp (decide := true) only [RR, ms_app, toList_some, toList_none, if_true, if_false, true_and, and_true, cond_true, sm0, sm1, sm1l, sm2, lc_lt, lc_gt, lc_eq, Int.toNat_natCast, Int.reduceToNat, Nat.reduceAdd, Nat.reduceEqDiff, Int.reduceLT, Int.reduceEq, Int.reduceNeg, Int.reduceAdd, Int.reduceMul, Nat.reduceMul, ms_n, ms_i, ms_l, ms_p, PM, fxM hF2, t2, v2]
        refine ⟨⟨by omega, by omega⟩, ⟨by omega, by omega⟩, ?_⟩
        by_cases e : rivP C w k = thnP C w k
        · rw [if_pos e]
          refine three _ was (f2.set rfl) (s2.oth (by decide)) (k2.cg (fun j hj => by rw [ms_row (by decide)])) (d4.oth (by decide)) (d5.oth (by decide)) ?_ hwas
          simp only [sumN]
          rw [show rrI C w k = 1 by unfold rrI; rw [if_pos e]]
          exact d6.inc (by omega)
        · rw [if_neg e]
          refine three σ2 was f2 s2 k2 d4 d5 ?_ hwas
          simp only [sumN]
          rw [show rrI C w k = 0 by unfold rrI; rw [if_neg e], Int.add_zero]; exact d6
      have one : ∀ was : Int, was = galeI C.2.1 (w.2.1 k) → ∀ σ1 : mM, σ1 = mj_set (mj_set σ' 182 (1 + 4 * k) (thnP C w k)) 182 (4 + 4 * k) (-1) → (readP C w k = thnP C w k → At (d + 8) 195 2 [some (.inr (.inr 146)), some (.inl (k : Int)), some (.inl was)] [] (mj_set σ1 146 55 (w32 (σ1 146 55 + 1))) K) ∧ (readP C w k ≠ thnP C w k → At (d + 8) 195 2 [some (.inr (.inr 146)), some (.inl (k : Int)), some (.inl was)] [] σ1 K) := by
        intro was hwas σ1 e1
        have f1 : Fr [182] [(146, 54), (146, 55), (146, 56)] σ0 σ1 := by rw [e1]; exact (fr.setr rfl).setr rfl
        have g : ∀ j, σ1 182 j = if j = 4 + 4 * k then -1 else if j = 1 + 4 * k then thnP C w k else σ' 182 j := fun j => by
          rw [e1, ms_app, if_pos rfl, ms_app, if_pos rfl]
        have s1 : SkM σ1 C (mdW C w (k + 1)) := by
          refine ⟨?_, fun p hp => ?_⟩
          · rw [g, if_neg (by omega), if_neg (by omega)]; exact hS.1
          · obtain ⟨q1, q2, q3, q4⟩ := hS.2 p hp
            rw [g (2 + 4 * p), if_neg (by omega), if_neg (by omega), g (3 + 4 * p), if_neg (by omega), if_neg (by omega)]
            refine ⟨?_, q2, q3, ?_⟩
            · rw [g, if_neg (by omega)]
              by_cases e : p = k
              · subst e
                rw [if_pos rfl]; simp only [mdW, if_pos (Nat.lt_succ_self p)]
              · rw [if_neg (by omega), q1]
                simp only [mdW]
                by_cases e2 : p < k
                · rw [if_pos e2, if_pos (by omega)]
                · rw [if_neg e2, if_neg (by omega)]
            · rw [g]
              by_cases e : p = k
              · subst e
                rw [if_pos rfl]; simp only [mdW, if_pos (Nat.lt_succ_self p)]
              · rw [if_neg (by omega), if_neg (by omega), q4]
                simp only [mdW]
                by_cases e2 : p < k
                · rw [if_pos e2, if_pos (by omega)]
                · rw [if_neg e2, if_neg (by omega)]
        have k1 : KK th σ σ1 C w l k := hk4.cg (fun j hj => by rw [e1, ms_app, if_pos rfl, if_neg (by omega), ms_app, if_pos rfl, if_neg (by omega)])
        have z : ∀ j, σ1 146 j = σ' 146 j := fun j => by rw [e1, ms_row (by decide), ms_row (by decide)]
        constructor
        · intro e
          refine two _ was (f1.set rfl) (s1.oth (by decide)) (k1.cg (fun j hj => by rw [ms_row (by decide)])) ((c4.cg (z 54)).oth (by decide)) ?_ ((c6.cg (z 56)).oth (by decide)) hwas
          simp only [sumN]
          rw [show rbI C w k = 1 by unfold rbI; rw [if_pos e]]
          exact (c5.cg (z 55)).inc (by omega)
        · intro e
          refine two σ1 was f1 s1 k1 (c4.cg (z 54)) ?_ (c6.cg (z 56)) hwas
          simp only [sumN]
          rw [show rbI C w k = 0 by unfold rbI; rw [if_neg e], Int.add_zero]; exact c5.cg (z 55)
      have i1 : Unit → w32 (4 * (k : Int)) = ((4 * k : Nat) : Int) := fun _ => by rw [w32_small (by omega) (by omega)]; omega
      have i2 : Unit → w32 (1 + ((4 * k : Nat) : Int)) = ((1 + 4 * k : Nat) : Int) := fun _ => by rw [w32_small (by omega) (by omega)]; omega
      have i3 : Unit → w32 (4 + ((4 * k : Nat) : Int)) = ((4 + 4 * k : Nat) : Int) := fun _ => by rw [w32_small (by omega) (by omega)]; omega
      refine At.blk rfl rfl rfl fun sx => ?_
      simp (decide := true) only [RR, ms_app, toList_some, toList_none, if_true, if_false, true_and, and_true, cond_true, sm0, sm1, sm1l, sm2, lc_lt, lc_gt, lc_eq, Int.toNat_natCast, Int.reduceToNat, Nat.reduceAdd, Nat.reduceEqDiff, Int.reduceLT, Int.reduceEq, Int.reduceNeg, Int.reduceAdd, Int.reduceMul, Nat.reduceMul, ms_n, ms_i, ms_l, ms_p, PM]
      refine cal_of rfl (m_partMany hF' ?_)
      simp (decide := true) only [RR, ms_app, toList_some, toList_none, if_true, if_false, true_and, and_true, cond_true, sm0, sm1, sm1l, sm2, lc_lt, lc_gt, lc_eq, Int.toNat_natCast, Int.reduceToNat, Nat.reduceAdd, Nat.reduceEqDiff, Int.reduceLT, Int.reduceEq, Int.reduceNeg, Int.reduceAdd, Int.reduceMul, Nat.reduceMul, ms_n, ms_i, ms_l, ms_p, PM, (hc.mn F).1]
      rw [if_pos (by omega)]
      refine cal_of rfl (m_isGale hF' (by omega) (fun h2 => ?_) (fun h2 => ?_))
      · rw [Int.toNat_natCast, a1, (hc.mn F).2.1] at h2
        have one := one 1 (by unfold galeI; rw [if_pos h2]) _ rfl
        simp (decide := true) only [RR, ms_app, toList_some, toList_none, if_true, if_false, true_and, and_true, cond_true, sm0, sm1, sm1l, sm2, lc_lt, lc_gt, lc_eq, Int.toNat_natCast, Int.reduceToNat, Nat.reduceAdd, Nat.reduceEqDiff, Int.reduceLT, Int.reduceEq, Int.reduceNeg, Int.reduceAdd, Int.reduceMul, Nat.reduceMul, ms_n, ms_i, ms_l, ms_p, PM, fxM hF', i1 (), i2 (), i3 (), tk, rk]
        refine ⟨⟨by omega, by omega⟩, ⟨by omega, by omega⟩, ⟨by omega, by omega⟩, ?_⟩
        by_cases e : readP C w k = thnP C w k
        · rw [if_pos e]
          exact ⟨⟨by omega, by omega⟩, ⟨by omega, by omega⟩, one.1 e⟩
        · rw [if_neg e]
          exact ⟨⟨by omega, by omega⟩, ⟨by omega, by omega⟩, one.2 e⟩
      · rw [Int.toNat_natCast, a1, (hc.mn F).2.1] at h2
        have one := one 0 (by unfold galeI; rw [if_neg (by omega)]) _ rfl
        simp (decide := true) only [RR, ms_app, toList_some, toList_none, if_true, if_false, true_and, and_true, cond_true, sm0, sm1, sm1l, sm2, lc_lt, lc_gt, lc_eq, Int.toNat_natCast, Int.reduceToNat, Nat.reduceAdd, Nat.reduceEqDiff, Int.reduceLT, Int.reduceEq, Int.reduceNeg, Int.reduceAdd, Int.reduceMul, Nat.reduceMul, ms_n, ms_i, ms_l, ms_p, PM, fxM hF', i1 (), i2 (), i3 (), tk, rk]
        refine ⟨⟨by omega, by omega⟩, ⟨by omega, by omega⟩, ⟨by omega, by omega⟩, ?_⟩
        by_cases e : readP C w k = thnP C w k
        · rw [if_pos e]
          exact ⟨⟨by omega, by omega⟩, ⟨by omega, by omega⟩, one.1 e⟩
        · rw [if_neg e]
          exact ⟨⟨by omega, by omega⟩, ⟨by omega, by omega⟩, one.2 e⟩
  refine loop C.1 0 rfl (by omega) none σ0 Fr.same ?_ (hkk.cg (fun j _ => f0 182 j rfl)) ?_ ?_ ?_
  · have := hs.mw n7 f0
    refine ⟨this.1, fun p hp => ?_⟩
    have := this.2 p hp
    simp only [mdW, if_neg (Nat.not_lt_zero p)]
    exact this
  · intro _ _; rw [f0 146 54 rfl]; simp [sumN]
  · intro _ _; rw [f0 146 55 rfl]; simp [sumN]
  · intro _ _; rw [f0 146 56 rfl]; simp [sumN]
end
