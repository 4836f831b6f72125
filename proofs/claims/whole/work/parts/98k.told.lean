section
variable {d : Nat} {σ : mM} {K : Option mV → mM → Prop}
theorem m_qOf {C : Ct} {p : Nat} {v : Int} (hF : Fix σ) (hC : CtV C) (hp : p < C.1) (hc : CtM σ C) (hK : K (some (.inr (.inl (nearV C p v)))) σ) : Mt (d + 3) 261 [.inr (.inr 146), .inl 0, .inr (.inl v), .inl (p : Int)] σ K := by
  refine Mt.go (lv := [some (.inr (.inr 146)), some (.inl 0), some (.inr (.inl v)), none, some (.inl (p : Int))]) rfl rfl rfl ?_
  have n7 := hC.1
  obtain ⟨c1, c2, c3, c4⟩ := hc
  have e6 := c3 p hp
  have hn := hC.near hp
  have two : nearV C p v = 0 → At (d + 2) 261 2 [some (.inr (.inr 146)), some (.inl 0), some (.inr (.inl v)), none, some (.inl (p : Int))] [] σ K := by
    intro h
    rw [h] at hK
    refine At.blk rfl rfl rfl fun sx => ?_
    simp (decide := true) only [RR, ms_app, toList_some, toList_none, if_true, if_false, true_and, and_true, cond_true, sm0, sm1, sm1l, sm2, lc_lt, lc_gt, lc_eq, Int.toNat_natCast, Int.reduceToNat, Nat.reduceAdd, Nat.reduceEqDiff, Int.reduceLT, Int.reduceEq, Int.reduceNeg, Int.reduceAdd, Int.reduceMul, Nat.reduceMul, ms_n, ms_i, ms_l, ms_p, PM]
    refine At.blk rfl rfl rfl fun sx => ?_
    simp (decide := true) only [RR, ms_app, toList_some, toList_none, if_true, if_false, true_and, and_true, cond_true, sm0, sm1, sm1l, sm2, lc_lt, lc_gt, lc_eq, Int.toNat_natCast, Int.reduceToNat, Nat.reduceAdd, Nat.reduceEqDiff, Int.reduceLT, Int.reduceEq, Int.reduceNeg, Int.reduceAdd, Int.reduceMul, Nat.reduceMul, ms_n, ms_i, ms_l, ms_p, PM]
    exact hK
  unfold nearV at two hK
  refine At.blk rfl rfl rfl fun sx => ?_
  simp (decide := true) only [RR, ms_app, toList_some, toList_none, if_true, if_false, true_and, and_true, cond_true, sm0, sm1, sm1l, sm2, lc_lt, lc_gt, lc_eq, Int.toNat_natCast, Int.reduceToNat, Nat.reduceAdd, Nat.reduceEqDiff, Int.reduceLT, Int.reduceEq, Int.reduceNeg, Int.reduceAdd, Int.reduceMul, Nat.reduceMul, ms_n, ms_i, ms_l, ms_p, PM]
  refine At.blk rfl rfl rfl fun sx => ?_
  simp (decide := true) only [RR, ms_app, toList_some, toList_none, if_true, if_false, true_and, and_true, cond_true, sm0, sm1, sm1l, sm2, lc_lt, lc_gt, lc_eq, Int.toNat_natCast, Int.reduceToNat, Nat.reduceAdd, Nat.reduceEqDiff, Int.reduceLT, Int.reduceEq, Int.reduceNeg, Int.reduceAdd, Int.reduceMul, Nat.reduceMul, ms_n, ms_i, ms_l, ms_p, PM]
  refine cal_of rfl (m_isPart hF (by omega) (fun h => ?_) (fun h => ?_))
  · rw [c1] at h
    rw [if_pos h] at two hK
    simp (decide := true) only [RR, ms_app, toList_some, toList_none, if_true, if_false, true_and, and_true, cond_true, sm0, sm1, sm1l, sm2, lc_lt, lc_gt, lc_eq, Int.toNat_natCast, Int.reduceToNat, Nat.reduceAdd, Nat.reduceEqDiff, Int.reduceLT, Int.reduceEq, Int.reduceNeg, Int.reduceAdd, Int.reduceMul, Nat.reduceMul, ms_n, ms_i, ms_l, ms_p, PM]
    rw [w32_small (by omega) (by omega)]
    refine cal_of rfl (m_areNear hF (by omega) (by omega) (by rw [Int.toNat_natCast, e6]; omega) (fun hb => ?_) (fun hb => ?_))
    · rw [Int.toNat_natCast, e6] at hb
      rw [hb] at hK
      simp (decide := true) only [RR, ms_app, toList_some, toList_none, if_true, if_false, true_and, and_true, cond_true, sm0, sm1, sm1l, sm2, lc_lt, lc_gt, lc_eq, Int.toNat_natCast, Int.reduceToNat, Nat.reduceAdd, Nat.reduceEqDiff, Int.reduceLT, Int.reduceEq, Int.reduceNeg, Int.reduceAdd, Int.reduceMul, Nat.reduceMul, ms_n, ms_i, ms_l, ms_p, PM]
      refine At.blk rfl rfl rfl fun sx => ?_
      simp (decide := true) only [RR, ms_app, toList_some, toList_none, if_true, if_false, true_and, and_true, cond_true, sm0, sm1, sm1l, sm2, lc_lt, lc_gt, lc_eq, Int.toNat_natCast, Int.reduceToNat, Nat.reduceAdd, Nat.reduceEqDiff, Int.reduceLT, Int.reduceEq, Int.reduceNeg, Int.reduceAdd, Int.reduceMul, Nat.reduceMul, ms_n, ms_i, ms_l, ms_p, PM]
      exact hK
    · rw [Int.toNat_natCast, e6] at hb
      simp (decide := true) only [RR, ms_app, toList_some, toList_none, if_true, if_false, true_and, and_true, cond_true, sm0, sm1, sm1l, sm2, lc_lt, lc_gt, lc_eq, Int.toNat_natCast, Int.reduceToNat, Nat.reduceAdd, Nat.reduceEqDiff, Int.reduceLT, Int.reduceEq, Int.reduceNeg, Int.reduceAdd, Int.reduceMul, Nat.reduceMul, ms_n, ms_i, ms_l, ms_p, PM]
      exact two hb
  · rw [c1] at h
    rw [if_neg h] at two
    simp (decide := true) only [RR, ms_app, toList_some, toList_none, if_true, if_false, true_and, and_true, cond_true, sm0, sm1, sm1l, sm2, lc_lt, lc_gt, lc_eq, Int.toNat_natCast, Int.reduceToNat, Nat.reduceAdd, Nat.reduceEqDiff, Int.reduceLT, Int.reduceEq, Int.reduceNeg, Int.reduceAdd, Int.reduceMul, Nat.reduceMul, ms_n, ms_i, ms_l, ms_p, PM]
    exact two rfl
theorem m_qTold {C : Ct} {w : Sk} {t : Nat → Int} {p : Nat} {cs : List Int} {b : Bool} (hF : Fix σ) (hC : CtV C) (hw : SkV C w) (hp : p < C.1) (hc : CtM σ C) (hs : SkM σ C w) (ht : σ 184 p = t p) (htb : -1000000 ≤ t p ∧ t p ≤ 1000000) (hl : cs.length ≤ 1600) (r2 : σ 146 89 = (cs.length : Int)) (r4 : ∀ (j : Nat) (h : j < cs.length), σ 214 j = cs[j]) (hty : tys cs [] = some [b]) (hK : ∀ σ', Fr [216] [(146, 95)] σ σ' → K (some (.inr (.inl ((evC C w t p cs []).headD 0)))) σ') : Mt (d + 5) 262 [.inr (.inr 146), .inl (p : Int)] σ K := by
  refine Mt.go (lv := [some (.inr (.inr 146)), some (.inl (p : Int)), none, none]) rfl rfl rfl ?_
  have n7 := hC.1
  have hv : ∀ c, 40 ≤ c → c ≤ 48 → -1000000 ≤ valC C w t p c ∧ valC C w t p c ≤ 1000000 := fun c _ _ => valC_le hC hw hp htb
  have loop : ∀ (cs' : List Int) (k : Nat) (st : List Int) (ts : List Bool) (σ' : mM) (o : Option mV), PS σ σ' st → k + cs'.length = cs.length → (∀ (j : Nat) (h : j < cs'.length), σ 214 (k + j) = cs'[j]) → StV ts st → ts.length ≤ 64 → tys cs' ts = some [b] → evC C w t p cs' st = evC C w t p cs [] → At (d + 4) 262 1 [some (.inr (.inr 146)), some (.inl (p : Int)), some (.inl (k : Int)), o] [] σ' K := by
    intro cs'
    induction cs' with
    | nil =>
      intro k st ts σ' o P hk hst hV h64 hT he
      have fr := P.1
      have hF' := hF.fr fr rfl
      have e2 : σ' 146 89 = (cs.length : Int) := (fr 146 89 rfl).trans r2
      simp only [List.length_nil, Nat.add_zero] at hk
      cases hT
      obtain ⟨v, s, rfl, hv1, hv2⟩ := hV.uncons
      obtain rfl := hv2.nil
      have hS0 : σ' 216 0 = v := P.2.2.1
      refine At.blk rfl rfl rfl fun sx => ?_
      simp (decide := true) only [RR, ms_app, toList_some, toList_none, if_true, if_false, true_and, and_true, cond_true, sm0, sm1, sm1l, sm2, lc_lt, lc_gt, lc_eq, Int.toNat_natCast, Int.reduceToNat, Nat.reduceAdd, Nat.reduceEqDiff, Int.reduceLT, Int.reduceEq, Int.reduceNeg, Int.reduceAdd, Int.reduceMul, Nat.reduceMul, ms_n, ms_i, ms_l, ms_p, PM, fxM hF', e2, hk]
      rw [if_neg (by omega)]
      refine At.blk rfl rfl rfl fun sx => ?_
      simp (decide := true) only [RR, ms_app, toList_some, toList_none, if_true, if_false, true_and, and_true, cond_true, sm0, sm1, sm1l, sm2, lc_lt, lc_gt, lc_eq, Int.toNat_natCast, Int.reduceToNat, Nat.reduceAdd, Nat.reduceEqDiff, Int.reduceLT, Int.reduceEq, Int.reduceNeg, Int.reduceAdd, Int.reduceMul, Nat.reduceMul, ms_n, ms_i, ms_l, ms_p, PM, fxM hF', hS0]
      have := hK σ' fr
      rw [← he] at this
      exact this
    | cons c cs' ih =>
      intro k st ts σ' o P hk hst hV h64 hT he
      have fr := P.1
      have hF' := hF.fr fr rfl
      have e2 : σ' 146 89 = (cs.length : Int) := (fr 146 89 rfl).trans r2
      simp only [List.length_cons] at hk
      have hc0 := hst 0 (by simp)
      rw [Nat.add_zero, List.getElem_cons_zero] at hc0
      have e0 : σ' 214 k = c := (fr 214 _ rfl).trans hc0
      simp only [tys] at hT
      cases ety : tyC c ts with
      | none => rw [ety] at hT; cases hT
      | some ts1 =>
      rw [ety] at hT
      have hT : tys cs' ts1 = some [b] := hT
      have hV1 := hV.step (hv c) ety
      have hlen := hV.len
      have w1 : Unit → w32 ((k : Int) + 1) = ((k + 1 : Nat) : Int) := fun _ => by rw [w32_small (by omega) (by omega)]; omega
      have nxt : ∀ (st1 : List Int) (σ1 : mM) (o1 : Option mV), st1 = stC C w t p c st → PS σ σ1 st1 → At (d + 4) 262 7 [some (.inr (.inr 146)), some (.inl (p : Int)), some (.inl (k : Int)), o1] [] σ1 K := by
        intro st1 σ1 o1 e1 P1
        refine At.blk rfl rfl rfl fun sx => ?_
        simp (decide := true) only [RR, ms_app, toList_some, toList_none, if_true, if_false, true_and, and_true, cond_true, sm0, sm1, sm1l, sm2, lc_lt, lc_gt, lc_eq, Int.toNat_natCast, Int.reduceToNat, Nat.reduceAdd, Nat.reduceEqDiff, Int.reduceLT, Int.reduceEq, Int.reduceNeg, Int.reduceAdd, Int.reduceMul, Nat.reduceMul, ms_n, ms_i, ms_l, ms_p, PM, w1 ()]
        refine ih (k + 1) st1 ts1 σ1 o1 P1 (by omega) (fun j hj => ?_) (by rw [e1]; exact hV1) (tyC_len h64 ety) hT (by rw [e1]; exact he)
        have := hst (j + 1) (by simp only [List.length_cons]; omega)
        rw [List.getElem_cons_succ] at this
        rw [show k + 1 + j = k + (j + 1) by omega]
        exact this
      have hcM := hc.cg (fr 173 2 rfl) (fr 178 2 rfl) (fr.row 176 rfl) (fr.row 179 rfl) (fr.row 180 rfl) (fr.row 181 rfl)
      have hsM := hs.cg (fun k _ => fr 182 k rfl) n7
      refine At.blk rfl rfl rfl fun sx => ?_
      simp (decide := true) only [RR, ms_app, toList_some, toList_none, if_true, if_false, true_and, and_true, cond_true, sm0, sm1, sm1l, sm2, lc_lt, lc_gt, lc_eq, Int.toNat_natCast, Int.reduceToNat, Nat.reduceAdd, Nat.reduceEqDiff, Int.reduceLT, Int.reduceEq, Int.reduceNeg, Int.reduceAdd, Int.reduceMul, Nat.reduceMul, ms_n, ms_i, ms_l, ms_p, PM, fxM hF', e2, e0]
      rw [if_pos (by omega)]
      refine ⟨⟨by omega, by omega⟩, ?_⟩
      have P2 := P.2.1
      rcases tyC_some ety with ⟨h1, h2, -⟩ | ⟨rfl, s, rfl, -⟩ | ⟨h1, h2, -⟩ | ⟨rfl, h2, -⟩ | ⟨rfl, s, rfl, -⟩ | h | h | h
      · -- a number
        rw [if_neg (by omega)]
        rw [w32_small (by omega) (by omega)]
        refine cal_of rfl (m_qPuts hF' P2 (by omega) ?_)
        simp (decide := true) only [RR, ms_app, toList_some, toList_none, if_true, if_false, true_and, and_true, cond_true, sm0, sm1, sm1l, sm2, lc_lt, lc_gt, lc_eq, Int.toNat_natCast, Int.reduceToNat, Nat.reduceAdd, Nat.reduceEqDiff, Int.reduceLT, Int.reduceEq, Int.reduceNeg, Int.reduceAdd, Int.reduceMul, Nat.reduceMul, ms_n, ms_i, ms_l, ms_p, PM]
        refine nxt _ _ _ ?_ P.push
        unfold stC
        rw [if_pos (by omega)]
      · -- near
        obtain ⟨x, st', rfl, x1, x2⟩ := hV.uncons
        simp only [List.length_cons] at hlen h64
        have k3a : σ' 216 st'.length = x := P.2.2.1
        have k2 : σ' 146 95 = ((st'.length + 1 : Nat) : Int) := P2
        have w2 : Unit → w32 (((st'.length + 1 : Nat) : Int) - 1) = (st'.length : Int) := fun _ => by rw [w32_small (by omega) (by omega)]; omega
        rw [if_pos (by omega)]
        refine At.blk rfl rfl rfl fun sx => ?_
        simp (decide := true) only [RR, ms_app, toList_some, toList_none, if_true, if_false, true_and, and_true, cond_true, sm0, sm1, sm1l, sm2, lc_lt, lc_gt, lc_eq, Int.toNat_natCast, Int.reduceToNat, Nat.reduceAdd, Nat.reduceEqDiff, Int.reduceLT, Int.reduceEq, Int.reduceNeg, Int.reduceAdd, Int.reduceMul, Nat.reduceMul, ms_n, ms_i, ms_l, ms_p, PM, fxM hF', k2, w2 (), k3a]
        refine ⟨⟨by omega, by omega⟩, ?_⟩
        refine cal_of rfl (m_qOf hF' hC hp hcM ?_)
        simp (decide := true) only [RR, ms_app, toList_some, toList_none, if_true, if_false, true_and, and_true, cond_true, sm0, sm1, sm1l, sm2, lc_lt, lc_gt, lc_eq, Int.toNat_natCast, Int.reduceToNat, Nat.reduceAdd, Nat.reduceEqDiff, Int.reduceLT, Int.reduceEq, Int.reduceNeg, Int.reduceAdd, Int.reduceMul, Nat.reduceMul, ms_n, ms_i, ms_l, ms_p, PM]
        refine cal_of rfl (m_qClip ?_)
        rw [clip_id (by have := nearV_le (C := C) (p := p) (v := x); omega)]
        simp (decide := true) only [RR, ms_app, toList_some, toList_none, if_true, if_false, true_and, and_true, cond_true, sm0, sm1, sm1l, sm2, lc_lt, lc_gt, lc_eq, Int.toNat_natCast, Int.reduceToNat, Nat.reduceAdd, Nat.reduceEqDiff, Int.reduceLT, Int.reduceEq, Int.reduceNeg, Int.reduceAdd, Int.reduceMul, Nat.reduceMul, ms_n, ms_i, ms_l, ms_p, PM]
        refine ⟨⟨by omega, by omega⟩, ?_⟩
        exact nxt _ _ _ rfl (P.top)
      · -- a value
        rw [if_pos (by omega)]
        refine At.blk rfl rfl rfl fun sx => ?_
        simp (decide := true) only [RR, ms_app, toList_some, toList_none, if_true, if_false, true_and, and_true, cond_true, sm0, sm1, sm1l, sm2, lc_lt, lc_gt, lc_eq, Int.toNat_natCast, Int.reduceToNat, Nat.reduceAdd, Nat.reduceEqDiff, Int.reduceLT, Int.reduceEq, Int.reduceNeg, Int.reduceAdd, Int.reduceMul, Nat.reduceMul, ms_n, ms_i, ms_l, ms_p, PM]
        rw [if_pos (by omega)]
        refine At.blk rfl rfl rfl fun sx => ?_
        simp (decide := true) only [RR, ms_app, toList_some, toList_none, if_true, if_false, true_and, and_true, cond_true, sm0, sm1, sm1l, sm2, lc_lt, lc_gt, lc_eq, Int.toNat_natCast, Int.reduceToNat, Nat.reduceAdd, Nat.reduceEqDiff, Int.reduceLT, Int.reduceEq, Int.reduceNeg, Int.reduceAdd, Int.reduceMul, Nat.reduceMul, ms_n, ms_i, ms_l, ms_p, PM]
        rw [if_neg (by omega)]
        rw [w32_small (by omega) (by omega)]
        refine cal_of rfl (m_qPartOf (C := C) (w := w) (t := t) (by omega) hF' hC hw hp hcM hsM (fun h5 => ?_) ?_)
        · rw [fr 184 p rfl]
          exact ht
        · simp (decide := true) only [RR, ms_app, toList_some, toList_none, if_true, if_false, true_and, and_true, cond_true, sm0, sm1, sm1l, sm2, lc_lt, lc_gt, lc_eq, Int.toNat_natCast, Int.reduceToNat, Nat.reduceAdd, Nat.reduceEqDiff, Int.reduceLT, Int.reduceEq, Int.reduceNeg, Int.reduceAdd, Int.reduceMul, Nat.reduceMul, ms_n, ms_i, ms_l, ms_p, PM]
          refine cal_of rfl (m_qClip ?_)
          rw [clip_id (valC_le hC hw hp htb)]
          simp (decide := true) only [RR, ms_app, toList_some, toList_none, if_true, if_false, true_and, and_true, cond_true, sm0, sm1, sm1l, sm2, lc_lt, lc_gt, lc_eq, Int.toNat_natCast, Int.reduceToNat, Nat.reduceAdd, Nat.reduceEqDiff, Int.reduceLT, Int.reduceEq, Int.reduceNeg, Int.reduceAdd, Int.reduceMul, Nat.reduceMul, ms_n, ms_i, ms_l, ms_p, PM]
          refine cal_of rfl (m_qPuts hF' P2 (by omega) ?_)
          simp (decide := true) only [RR, ms_app, toList_some, toList_none, if_true, if_false, true_and, and_true, cond_true, sm0, sm1, sm1l, sm2, lc_lt, lc_gt, lc_eq, Int.toNat_natCast, Int.reduceToNat, Nat.reduceAdd, Nat.reduceEqDiff, Int.reduceLT, Int.reduceEq, Int.reduceNeg, Int.reduceAdd, Int.reduceMul, Nat.reduceMul, ms_n, ms_i, ms_l, ms_p, PM]
          refine nxt _ _ _ ?_ P.push
          unfold stC
          rw [if_neg (by omega), if_neg (by omega), if_pos (by omega), show 40 + (c - 40) = c by omega]
      · -- all
        rw [if_pos (by omega)]
        refine At.blk rfl rfl rfl fun sx => ?_
        simp (decide := true) only [RR, ms_app, toList_some, toList_none, if_true, if_false, true_and, and_true, cond_true, sm0, sm1, sm1l, sm2, lc_lt, lc_gt, lc_eq, Int.toNat_natCast, Int.reduceToNat, Nat.reduceAdd, Nat.reduceEqDiff, Int.reduceLT, Int.reduceEq, Int.reduceNeg, Int.reduceAdd, Int.reduceMul, Nat.reduceMul, ms_n, ms_i, ms_l, ms_p, PM]
        refine At.blk rfl rfl rfl fun sx => ?_
        simp (decide := true) only [RR, ms_app, toList_some, toList_none, if_true, if_false, true_and, and_true, cond_true, sm0, sm1, sm1l, sm2, lc_lt, lc_gt, lc_eq, Int.toNat_natCast, Int.reduceToNat, Nat.reduceAdd, Nat.reduceEqDiff, Int.reduceLT, Int.reduceEq, Int.reduceNeg, Int.reduceAdd, Int.reduceMul, Nat.reduceMul, ms_n, ms_i, ms_l, ms_p, PM]
        refine At.blk rfl rfl rfl fun sx => ?_
        simp (decide := true) only [RR, ms_app, toList_some, toList_none, if_true, if_false, true_and, and_true, cond_true, sm0, sm1, sm1l, sm2, lc_lt, lc_gt, lc_eq, Int.toNat_natCast, Int.reduceToNat, Nat.reduceAdd, Nat.reduceEqDiff, Int.reduceLT, Int.reduceEq, Int.reduceNeg, Int.reduceAdd, Int.reduceMul, Nat.reduceMul, ms_n, ms_i, ms_l, ms_p, PM]
        refine cal_of rfl (m_qPuts hF' P2 (by omega) ?_)
        simp (decide := true) only [RR, ms_app, toList_some, toList_none, if_true, if_false, true_and, and_true, cond_true, sm0, sm1, sm1l, sm2, lc_lt, lc_gt, lc_eq, Int.toNat_natCast, Int.reduceToNat, Nat.reduceAdd, Nat.reduceEqDiff, Int.reduceLT, Int.reduceEq, Int.reduceNeg, Int.reduceAdd, Int.reduceMul, Nat.reduceMul, ms_n, ms_i, ms_l, ms_p, PM]
        exact nxt _ _ _ rfl P.push
      · -- not
        obtain ⟨x, st', rfl, x1, x2⟩ := hV.uncons
        rw [if_pos rfl] at x1
        simp only [List.length_cons] at hlen h64
        have k3a : σ' 216 st'.length = x := P.2.2.1
        have k2 : σ' 146 95 = ((st'.length + 1 : Nat) : Int) := P2
        have w2 : Unit → w32 (((st'.length + 1 : Nat) : Int) - 1) = (st'.length : Int) := fun _ => by rw [w32_small (by omega) (by omega)]; omega
        rw [if_pos (by omega)]
        refine At.blk rfl rfl rfl fun sx => ?_
        simp (decide := true) only [RR, ms_app, toList_some, toList_none, if_true, if_false, true_and, and_true, cond_true, sm0, sm1, sm1l, sm2, lc_lt, lc_gt, lc_eq, Int.toNat_natCast, Int.reduceToNat, Nat.reduceAdd, Nat.reduceEqDiff, Int.reduceLT, Int.reduceEq, Int.reduceNeg, Int.reduceAdd, Int.reduceMul, Nat.reduceMul, ms_n, ms_i, ms_l, ms_p, PM]
        refine At.blk rfl rfl rfl fun sx => ?_
        simp (decide := true) only [RR, ms_app, toList_some, toList_none, if_true, if_false, true_and, and_true, cond_true, sm0, sm1, sm1l, sm2, lc_lt, lc_gt, lc_eq, Int.toNat_natCast, Int.reduceToNat, Nat.reduceAdd, Nat.reduceEqDiff, Int.reduceLT, Int.reduceEq, Int.reduceNeg, Int.reduceAdd, Int.reduceMul, Nat.reduceMul, ms_n, ms_i, ms_l, ms_p, PM]
        refine At.blk rfl rfl rfl fun sx => ?_
        simp (decide := true) only [RR, ms_app, toList_some, toList_none, if_true, if_false, true_and, and_true, cond_true, sm0, sm1, sm1l, sm2, lc_lt, lc_gt, lc_eq, Int.toNat_natCast, Int.reduceToNat, Nat.reduceAdd, Nat.reduceEqDiff, Int.reduceLT, Int.reduceEq, Int.reduceNeg, Int.reduceAdd, Int.reduceMul, Nat.reduceMul, ms_n, ms_i, ms_l, ms_p, PM]
        refine At.blk rfl rfl rfl fun sx => ?_
        simp (decide := true) only [RR, ms_app, toList_some, toList_none, if_true, if_false, true_and, and_true, cond_true, sm0, sm1, sm1l, sm2, lc_lt, lc_gt, lc_eq, Int.toNat_natCast, Int.reduceToNat, Nat.reduceAdd, Nat.reduceEqDiff, Int.reduceLT, Int.reduceEq, Int.reduceNeg, Int.reduceAdd, Int.reduceMul, Nat.reduceMul, ms_n, ms_i, ms_l, ms_p, PM, fxM hF', k2, w2 (), k3a]
        refine ⟨⟨by omega, by omega⟩, ⟨by omega, by omega⟩, ?_⟩
        rw [w64_small (by omega) (by omega)]
        exact nxt _ _ _ rfl (P.top)
      all_goals
        have hts : ∃ u s, ts = u :: u :: s ∧ 1 ≤ c ∧ c ≤ 11 := by
          obtain ⟨h1, s, h2, _⟩ := h
          exact ⟨_, s, h2, by omega, by omega⟩
        obtain ⟨u, s', rfl, hc11⟩ := hts
        obtain ⟨y, st1, rfl, y1, y2⟩ := hV.uncons
        obtain ⟨x, st', rfl, x1, x2⟩ := y2.uncons
        simp only [List.length_cons] at hlen h64
        rw [if_pos (by omega)]
        refine At.blk rfl rfl rfl fun sx => ?_
        simp (decide := true) only [RR, ms_app, toList_some, toList_none, if_true, if_false, true_and, and_true, cond_true, sm0, sm1, sm1l, sm2, lc_lt, lc_gt, lc_eq, Int.toNat_natCast, Int.reduceToNat, Nat.reduceAdd, Nat.reduceEqDiff, Int.reduceLT, Int.reduceEq, Int.reduceNeg, Int.reduceAdd, Int.reduceMul, Nat.reduceMul, ms_n, ms_i, ms_l, ms_p, PM]
        rw [if_pos (by omega)]
        refine At.blk rfl rfl rfl fun sx => ?_
        simp (decide := true) only [RR, ms_app, toList_some, toList_none, if_true, if_false, true_and, and_true, cond_true, sm0, sm1, sm1l, sm2, lc_lt, lc_gt, lc_eq, Int.toNat_natCast, Int.reduceToNat, Nat.reduceAdd, Nat.reduceEqDiff, Int.reduceLT, Int.reduceEq, Int.reduceNeg, Int.reduceAdd, Int.reduceMul, Nat.reduceMul, ms_n, ms_i, ms_l, ms_p, PM]
        rw [if_pos (by omega)]
        refine At.blk rfl rfl rfl fun sx => ?_
        simp (decide := true) only [RR, ms_app, toList_some, toList_none, if_true, if_false, true_and, and_true, cond_true, sm0, sm1, sm1l, sm2, lc_lt, lc_gt, lc_eq, Int.toNat_natCast, Int.reduceToNat, Nat.reduceAdd, Nat.reduceEqDiff, Int.reduceLT, Int.reduceEq, Int.reduceNeg, Int.reduceAdd, Int.reduceMul, Nat.reduceMul, ms_n, ms_i, ms_l, ms_p, PM]
        rw [if_neg (by omega)]
        refine At.blk rfl rfl rfl fun sx => ?_
        simp (decide := true) only [RR, ms_app, toList_some, toList_none, if_true, if_false, true_and, and_true, cond_true, sm0, sm1, sm1l, sm2, lc_lt, lc_gt, lc_eq, Int.toNat_natCast, Int.reduceToNat, Nat.reduceAdd, Nat.reduceEqDiff, Int.reduceLT, Int.reduceEq, Int.reduceNeg, Int.reduceAdd, Int.reduceMul, Nat.reduceMul, ms_n, ms_i, ms_l, ms_p, PM]
        rw [if_neg (by omega)]
        refine At.blk rfl rfl rfl fun sx => ?_
        simp (decide := true) only [RR, ms_app, toList_some, toList_none, if_true, if_false, true_and, and_true, cond_true, sm0, sm1, sm1l, sm2, lc_lt, lc_gt, lc_eq, Int.toNat_natCast, Int.reduceToNat, Nat.reduceAdd, Nat.reduceEqDiff, Int.reduceLT, Int.reduceEq, Int.reduceNeg, Int.reduceAdd, Int.reduceMul, Nat.reduceMul, ms_n, ms_i, ms_l, ms_p, PM]
        refine cal_of rfl (m_qJoins hc11 y2.top hV.top (by omega) hF' P (fun σ1 P1 => ?_))
        simp (decide := true) only [RR, ms_app, toList_some, toList_none, if_true, if_false, true_and, and_true, cond_true, sm0, sm1, sm1l, sm2, lc_lt, lc_gt, lc_eq, Int.toNat_natCast, Int.reduceToNat, Nat.reduceAdd, Nat.reduceEqDiff, Int.reduceLT, Int.reduceEq, Int.reduceNeg, Int.reduceAdd, Int.reduceMul, Nat.reduceMul, ms_n, ms_i, ms_l, ms_p, PM]
        refine nxt _ σ1 _ ?_ P1
        unfold stC
        rw [if_neg (by omega), if_neg (by omega), if_neg (by omega), if_neg (by omega), if_neg (by omega)]; rfl
  refine At.blk rfl rfl rfl fun sx => ?_
  simp (decide := true) only [RR, ms_app, toList_some, toList_none, if_true, if_false, true_and, and_true, cond_true, sm0, sm1, sm1l, sm2, lc_lt, lc_gt, lc_eq, Int.toNat_natCast, Int.reduceToNat, Nat.reduceAdd, Nat.reduceEqDiff, Int.reduceLT, Int.reduceEq, Int.reduceNeg, Int.reduceAdd, Int.reduceMul, Nat.reduceMul, ms_n, ms_i, ms_l, ms_p, PM]
  refine loop cs 0 [] [] _ none ⟨Fr.same.set rfl, rfl, trivial⟩ (by omega) (fun j h => by rw [Nat.zero_add]; exact r4 j h) trivial (by decide) hty rfl
end
