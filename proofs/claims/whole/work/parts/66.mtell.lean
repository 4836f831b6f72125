section
variable {d : Nat} {σ : mM} {K : Option mV → mM → Prop}
theorem m_codesTell {C : Ct} {w : Sk} {t : Nat → Int} {p r : Nat} (hF : Fix σ) (hC : CtV C) (hw : SkV C w) (hp : p < C.1) (hc : CtM σ C) (hs : SkM σ C w) (ht : 45 ∈ C.2.2.2 r → σ 184 p = t p) (htb : -1000000 ≤ t p ∧ t p ≤ 1000000) (hr : r < 3) (hno : σ 179 (3 + r) ≠ -1) (hK : ∀ σ', Fr [216] [(146, 95), (146, 46)] σ σ' → K (some (.inr (.inl (tellP C w t r p)))) σ') : Mt (d + 5) 188 [.inr (.inr 146), .inl (r : Int), .inl (p : Int)] σ K := by
  refine Mt.go (lv := [some (.inr (.inr 146)), some (.inl (r : Int)), some (.inl (p : Int)), none, none]) rfl rfl rfl ?_
  have n7 := hC.1
  obtain ⟨hty, h45r, hcc⟩ := hC.2.2.2 r hr
  obtain ⟨f, r1, r2, r3, r4⟩ : ∃ f : Nat, σ 179 (3 + r) = (f : Int) ∧ σ 180 (3 + r) = ((f + (C.2.2.2 r).length : Nat) : Int) ∧ f + (C.2.2.2 r).length ≤ 1600 ∧ ∀ (j : Nat) (h : j < (C.2.2.2 r).length), σ 181 (1600 + (f + j)) = (C.2.2.2 r)[j] := by
    rcases hc.2.2.2 r hr with h | h
    · exact absurd h.1 hno
    · exact h
  have hv : ∀ c, 40 ≤ c → c ≤ 48 → -1000000 ≤ valC C w t p c ∧ valC C w t p c ≤ 1000000 := fun c _ _ => valC_le hC hw hp htb
  have e3 : Unit → w32 (3 + (r : Int)) = ((3 + r : Nat) : Int) := fun _ => by rw [w32_small (by omega) (by omega)]; omega
  unfold tellP at hK
  generalize C.2.2.2 r = cs at *
  have loop : ∀ (σa : mM), Fr [216] [(146, 95), (146, 46)] σ σa → ∀ (cs' : List Int) (k : Nat) (st : List Int) (ts : List Bool) (σ' : mM) (o : Option mV), PS σa σ' st → k + cs'.length = f + cs.length → (∀ (j : Nat) (h : j < cs'.length), σ 181 (1600 + (k + j)) = cs'[j]) → (∀ c ∈ cs', c ∈ cs) → StV ts st → ts.length ≤ 64 → tys cs' ts = some [false] → evC C w t p cs' st = evC C w t p cs [] → At (d + 4) 188 3 [some (.inr (.inr 146)), some (.inl (r : Int)), some (.inl (p : Int)), some (.inl (k : Int)), o] [] σ' K := by
    intro σa fa cs'
    induction cs' with
    | nil =>
      intro k st ts σ' o P hk hst hin hV h64 hT he
      have fr : Fr [216] [(146, 95), (146, 46)] σ σ' := fa.trans (P.1.mono rfl)
      have hF' := hF.fr fr rfl
      have e2 : σ' 180 (3 + r) = ((f + cs.length : Nat) : Int) := (fr 180 (3 + r) rfl).trans r2
      simp only [List.length_nil, Nat.add_zero] at hk
      cases hT
      obtain ⟨v, s, rfl, hv1, hv2⟩ := hV.uncons
      obtain rfl := hv2.nil
      have hS0 : σ' 216 0 = v := P.2.2.1
      refine At.blk rfl rfl rfl fun sx => ?_
      simp (decide := true) only [RR, ms_app, toList_some, toList_none, if_true, if_false, true_and, and_true, cond_true, sm0, sm1, sm1l, sm2, lc_lt, lc_gt, lc_eq, Int.toNat_natCast, Int.reduceToNat, Nat.reduceAdd, Nat.reduceEqDiff, Int.reduceLT, Int.reduceEq, Int.reduceNeg, Int.reduceAdd, Int.reduceMul, Nat.reduceMul, ms_n, ms_i, ms_l, ms_p, PM, fxM hF', e3 (), e2, hk]
      rw [if_neg (by omega)]
      refine ⟨⟨by omega, by omega⟩, ?_⟩
      refine At.blk rfl rfl rfl fun sx => ?_
      simp (decide := true) only [RR, ms_app, toList_some, toList_none, if_true, if_false, true_and, and_true, cond_true, sm0, sm1, sm1l, sm2, lc_lt, lc_gt, lc_eq, Int.toNat_natCast, Int.reduceToNat, Nat.reduceAdd, Nat.reduceEqDiff, Int.reduceLT, Int.reduceEq, Int.reduceNeg, Int.reduceAdd, Int.reduceMul, Nat.reduceMul, ms_n, ms_i, ms_l, ms_p, PM, fxM hF', hS0]
      have := hK σ' fr
      rw [← he] at this
      exact this
    | cons c cs' ih =>
      intro k st ts σ' o P hk hst hin hV h64 hT he
      have fr : Fr [216] [(146, 95), (146, 46)] σ σ' := fa.trans (P.1.mono rfl)
      have hF' := hF.fr fr rfl
      have e2 : σ' 180 (3 + r) = ((f + cs.length : Nat) : Int) := (fr 180 (3 + r) rfl).trans r2
      simp only [List.length_cons] at hk
      have hc0 := hst 0 (by simp)
      rw [Nat.add_zero, List.getElem_cons_zero] at hc0
      have e0 : σ' 181 (1600 + k) = c := (fr 181 _ rfl).trans hc0
      have e4 : Unit → w32 (1600 + (k : Int)) = ((1600 + k : Nat) : Int) := fun _ => by rw [w32_small (by omega) (by omega)]; omega
      simp only [tys] at hT
      cases ety : tyC c ts with
      | none => rw [ety] at hT; cases hT
      | some ts1 =>
      rw [ety] at hT
      have hT : tys cs' ts1 = some [false] := hT
      have hV1 := hV.step (hv c) ety
      have hlen := hV.len
      have hcs := hin c (List.mem_cons_self ..)
      have hcb := hcc c hcs
      have w1 : Unit → w32 ((k : Int) + 1) = ((k + 1 : Nat) : Int) := fun _ => by rw [w32_small (by omega) (by omega)]; omega
      have nxt : ∀ (st1 : List Int) (σ1 : mM) (o1 : Option mV), st1 = stC C w t p c st → PS σa σ1 st1 → At (d + 4) 188 6 [some (.inr (.inr 146)), some (.inl (r : Int)), some (.inl (p : Int)), some (.inl (k : Int)), o1] [] σ1 K := by
        intro st1 σ1 o1 e1 P1
        refine At.blk rfl rfl rfl fun sx => ?_
        simp (decide := true) only [RR, ms_app, toList_some, toList_none, if_true, if_false, true_and, and_true, cond_true, sm0, sm1, sm1l, sm2, lc_lt, lc_gt, lc_eq, Int.toNat_natCast, Int.reduceToNat, Nat.reduceAdd, Nat.reduceEqDiff, Int.reduceLT, Int.reduceEq, Int.reduceNeg, Int.reduceAdd, Int.reduceMul, Nat.reduceMul, ms_n, ms_i, ms_l, ms_p, PM, w1 ()]
        refine ih (k + 1) st1 ts1 σ1 o1 P1 (by omega) (fun j hj => ?_) (fun x hx => hin x (List.mem_cons_of_mem _ hx)) (by rw [e1]; exact hV1) (tyC_len h64 ety) hT (by rw [e1]; exact he)
        have := hst (j + 1) (by simp only [List.length_cons]; omega)
        rw [List.getElem_cons_succ] at this
        rw [show k + 1 + j = k + (j + 1) by omega]
        exact this
      have hcM := hc.cg (fr 173 2 rfl) (fr 178 2 rfl) (fr.row 176 rfl) (fr.row 179 rfl) (fr.row 180 rfl) (fr.row 181 rfl)
      have hsM := hs.cg (fun k _ => fr 182 k rfl) n7
      refine At.blk rfl rfl rfl fun sx => ?_
      simp (decide := true) only [RR, ms_app, toList_some, toList_none, if_true, if_false, true_and, and_true, cond_true, sm0, sm1, sm1l, sm2, lc_lt, lc_gt, lc_eq, Int.toNat_natCast, Int.reduceToNat, Nat.reduceAdd, Nat.reduceEqDiff, Int.reduceLT, Int.reduceEq, Int.reduceNeg, Int.reduceAdd, Int.reduceMul, Nat.reduceMul, ms_n, ms_i, ms_l, ms_p, PM, fxM hF', e3 (), e2, e4 (), e0]
      rw [if_pos (by omega)]
      refine ⟨⟨by omega, by omega⟩, ⟨by omega, by omega⟩, ?_⟩
      have cases3 := tyC_some ety
      by_cases c1 : c < 1000
      · rw [if_pos c1]
        refine At.blk rfl rfl rfl fun sx => ?_
        simp (decide := true) only [RR, ms_app, toList_some, toList_none, if_true, if_false, true_and, and_true, cond_true, sm0, sm1, sm1l, sm2, lc_lt, lc_gt, lc_eq, Int.toNat_natCast, Int.reduceToNat, Nat.reduceAdd, Nat.reduceEqDiff, Int.reduceLT, Int.reduceEq, Int.reduceNeg, Int.reduceAdd, Int.reduceMul, Nat.reduceMul, ms_n, ms_i, ms_l, ms_p, PM]
        by_cases c2 : c < 40
        · rw [if_pos c2]
          refine At.blk rfl rfl rfl fun sx => ?_
          simp (decide := true) only [RR, ms_app, toList_some, toList_none, if_true, if_false, true_and, and_true, cond_true, sm0, sm1, sm1l, sm2, lc_lt, lc_gt, lc_eq, Int.toNat_natCast, Int.reduceToNat, Nat.reduceAdd, Nat.reduceEqDiff, Int.reduceLT, Int.reduceEq, Int.reduceNeg, Int.reduceAdd, Int.reduceMul, Nat.reduceMul, ms_n, ms_i, ms_l, ms_p, PM]
          have hts : ∃ u s, ts = u :: u :: s ∧ 1 ≤ c ∧ c ≤ 11 := by
            rcases cases3 with h | ⟨h, _⟩ | h | h | ⟨h, _⟩ | ⟨h1, s, h, _⟩ | ⟨h1, s, h, _⟩ | ⟨h1, s, h, _⟩
            · omega
            · omega
            · omega
            · omega
            · omega
            · exact ⟨_, s, h, by omega, by omega⟩
            · exact ⟨_, s, h, by omega, by omega⟩
            · exact ⟨_, s, h, by omega, by omega⟩
          obtain ⟨u, s', rfl, hc11⟩ := hts
          obtain ⟨y, st1, rfl, y1, y2⟩ := hV.uncons
          obtain ⟨x, st', rfl, x1, x2⟩ := y2.uncons
          simp only [List.length_cons] at hlen h64
          refine cal_of rfl (m_qJoins hc11 y2.top hV.top (by omega) hF' P (fun σ1 P1 => ?_))
          simp (decide := true) only [RR, ms_app, toList_some, toList_none, if_true, if_false, true_and, and_true, cond_true, sm0, sm1, sm1l, sm2, lc_lt, lc_gt, lc_eq, Int.toNat_natCast, Int.reduceToNat, Nat.reduceAdd, Nat.reduceEqDiff, Int.reduceLT, Int.reduceEq, Int.reduceNeg, Int.reduceAdd, Int.reduceMul, Nat.reduceMul, ms_n, ms_i, ms_l, ms_p, PM]
          refine nxt _ σ1 _ ?_ P1
          unfold stC
          rw [if_neg (by omega), if_neg (by omega), if_neg (by omega), if_neg (by omega), if_neg (by omega)]; rfl
        · rw [if_neg c2]
          have hl : st.length < 64 ∧ c ≤ 48 := by
            rcases cases3 with h | h | h | h | h | h | h | h <;> omega
          rw [w32_small (by omega) (by omega)]
          refine cal_of rfl (m_qPartOf (C := C) (w := w) (t := t) (by omega) hF' hC hw hp hcM hsM (fun h5 => ?_) ?_)
          · rw [fr 184 p rfl]
            exact ht (by rw [show (45 : Int) = c by omega]; exact hcs)
          · simp (decide := true) only [RR, ms_app, toList_some, toList_none, if_true, if_false, true_and, and_true, cond_true, sm0, sm1, sm1l, sm2, lc_lt, lc_gt, lc_eq, Int.toNat_natCast, Int.reduceToNat, Nat.reduceAdd, Nat.reduceEqDiff, Int.reduceLT, Int.reduceEq, Int.reduceNeg, Int.reduceAdd, Int.reduceMul, Nat.reduceMul, ms_n, ms_i, ms_l, ms_p, PM]
            refine cal_of rfl (m_qPuts hF' P.2.1 (by omega) ?_)
            simp (decide := true) only [RR, ms_app, toList_some, toList_none, if_true, if_false, true_and, and_true, cond_true, sm0, sm1, sm1l, sm2, lc_lt, lc_gt, lc_eq, Int.toNat_natCast, Int.reduceToNat, Nat.reduceAdd, Nat.reduceEqDiff, Int.reduceLT, Int.reduceEq, Int.reduceNeg, Int.reduceAdd, Int.reduceMul, Nat.reduceMul, ms_n, ms_i, ms_l, ms_p, PM]
            refine nxt _ _ _ ?_ P.push
            unfold stC
            rw [if_neg (by omega), if_neg (by omega), if_pos (by omega), show 40 + (c - 40) = c by omega]
      · rw [if_neg c1]
        have hl : st.length < 64 ∧ c ≤ 10999 := by
          rcases cases3 with h | h | h | h | h | h | h | h <;> omega
        rw [w32_small (by omega) (by omega)]
        refine cal_of rfl (m_qPuts hF' P.2.1 (by omega) ?_)
        simp (decide := true) only [RR, ms_app, toList_some, toList_none, if_true, if_false, true_and, and_true, cond_true, sm0, sm1, sm1l, sm2, lc_lt, lc_gt, lc_eq, Int.toNat_natCast, Int.reduceToNat, Nat.reduceAdd, Nat.reduceEqDiff, Int.reduceLT, Int.reduceEq, Int.reduceNeg, Int.reduceAdd, Int.reduceMul, Nat.reduceMul, ms_n, ms_i, ms_l, ms_p, PM]
        refine nxt _ _ _ ?_ P.push
        unfold stC
        rw [if_pos (by omega)]
  have go : ∀ x : Int, At (d + 4) 188 2 [some (.inr (.inr 146)), some (.inl (r : Int)), some (.inl (p : Int)), none, none] [.inl x, .inr (.inr 146)] σ K := by
    intro x
    refine At.blk rfl rfl rfl fun sx => ?_
    simp (decide := true) only [RR, ms_app, toList_some, toList_none, if_true, if_false, true_and, and_true, cond_true, sm0, sm1, sm1l, sm2, lc_lt, lc_gt, lc_eq, Int.toNat_natCast, Int.reduceToNat, Nat.reduceAdd, Nat.reduceEqDiff, Int.reduceLT, Int.reduceEq, Int.reduceNeg, Int.reduceAdd, Int.reduceMul, Nat.reduceMul, ms_n, ms_i, ms_l, ms_p, PM, fxM hF, e3 (), r1]
    refine ⟨⟨by omega, by omega⟩, ?_⟩
    refine loop (mj_set σ 146 46 x) (Fr.same.set rfl) cs f [] [] _ none ⟨Fr.same.set rfl, rfl, trivial⟩ rfl r4 (fun c hc => hc) trivial (by decide) hty rfl
  refine At.blk rfl rfl rfl fun sx => ?_
  simp (decide := true) only [RR, ms_app, toList_some, toList_none, if_true, if_false, true_and, and_true, cond_true, sm0, sm1, sm1l, sm2, lc_lt, lc_gt, lc_eq, Int.toNat_natCast, Int.reduceToNat, Nat.reduceAdd, Nat.reduceEqDiff, Int.reduceLT, Int.reduceEq, Int.reduceNeg, Int.reduceAdd, Int.reduceMul, Nat.reduceMul, ms_n, ms_i, ms_l, ms_p, PM]
  by_cases h2 : r = 2
  · rw [if_pos (by omega)]
    exact go 1
  · rw [if_neg (by omega)]
    refine At.blk rfl rfl rfl fun sx => ?_
    simp (decide := true) only [RR, ms_app, toList_some, toList_none, if_true, if_false, true_and, and_true, cond_true, sm0, sm1, sm1l, sm2, lc_lt, lc_gt, lc_eq, Int.toNat_natCast, Int.reduceToNat, Nat.reduceAdd, Nat.reduceEqDiff, Int.reduceLT, Int.reduceEq, Int.reduceNeg, Int.reduceAdd, Int.reduceMul, Nat.reduceMul, ms_n, ms_i, ms_l, ms_p, PM]
    exact go 0
/-- what the model lays -/
def mwL : List Nat := [184, 185, 186, 187, 216]
def mwT : List (Nat × Nat) := [(146, 95), (146, 46)]
theorem CtM.mw {C : Ct} {σ' : mM} (h : CtM σ C) (fr : Fr mwL mwT σ σ') : CtM σ' C := h.cg (fr 173 2 rfl) (fr 178 2 rfl) (fr.row 176 rfl) (fr.row 179 rfl) (fr.row 180 rfl) (fr.row 181 rfl)
theorem SkM.mw {C : Ct} {w : Sk} {σ' : mM} (h : SkM σ C w) (n7 : C.1 ≤ 7) (fr : Fr mwL mwT σ σ') : SkM σ' C w := h.cg (fun k _ => fr 182 k rfl) n7
theorem tell1 {C : Ct} {w : Sk} {t : Nat → Int} {r p : Nat} {c : Int} (h : C.2.2.2 r = [c]) (hc : 40 ≤ c ∧ c ≤ 45) : tellP C w t r p = valC C w t p c := by
  unfold tellP
  rw [h]
  unfold evC evC stC
  rw [if_neg (by omega), if_neg (by omega), if_pos (by omega)]; rfl
theorem m_readFor {C : Ct} {w : Sk} {p : Nat} (hF : Fix σ) (hC : CtV C) (hw : SkV C w) (hp : p < C.1) (hc : CtM σ C) (hs : SkM σ C w) (hK : ∀ σ', Fr [216] [(146, 95), (146, 46)] σ σ' → K (some (.inl (readP C w p))) σ') : Mt (d + 6) 190 [.inr (.inr 146), .inl (p : Int)] σ K := by
  refine Mt.go (lv := [some (.inr (.inr 146)), some (.inl (p : Int))]) rfl rfl rfl ?_
  have n7 := hC.1
  obtain ⟨a1, a2, a3, a4⟩ := hs.2 p hp
  have av := hw.2 p hp
  have h45 := (hC.2.2.2 0 (by decide)).2.1 (by decide)
  unfold readP at hK
  refine At.blk rfl rfl rfl fun sx => ?_
  simp (decide := true) only [RR, ms_app, toList_some, toList_none, if_true, if_false, true_and, and_true, cond_true, sm0, sm1, sm1l, sm2, lc_lt, lc_gt, lc_eq, Int.toNat_natCast, Int.reduceToNat, Nat.reduceAdd, Nat.reduceEqDiff, Int.reduceLT, Int.reduceEq, Int.reduceNeg, Int.reduceAdd, Int.reduceMul, Nat.reduceMul, ms_n, ms_i, ms_l, ms_p, PM]
  refine cal_of rfl (m_actOf hF (by omega) ?_)
  rw [Int.toNat_natCast, a4]
  simp (decide := true) only [RR, ms_app, toList_some, toList_none, if_true, if_false, true_and, and_true, cond_true, sm0, sm1, sm1l, sm2, lc_lt, lc_gt, lc_eq, Int.toNat_natCast, Int.reduceToNat, Nat.reduceAdd, Nat.reduceEqDiff, Int.reduceLT, Int.reduceEq, Int.reduceNeg, Int.reduceAdd, Int.reduceMul, Nat.reduceMul, ms_n, ms_i, ms_l, ms_p, PM]
  by_cases h1 : w.2.2.2.2 p = -2
  · rw [if_pos h1]
    have := hK σ Fr.same
    rw [if_pos h1] at this
    exact this
  · rw [if_neg h1]
    refine At.blk rfl rfl rfl fun sx => ?_
    simp (decide := true) only [RR, ms_app, toList_some, toList_none, if_true, if_false, true_and, and_true, cond_true, sm0, sm1, sm1l, sm2, lc_lt, lc_gt, lc_eq, Int.toNat_natCast, Int.reduceToNat, Nat.reduceAdd, Nat.reduceEqDiff, Int.reduceLT, Int.reduceEq, Int.reduceNeg, Int.reduceAdd, Int.reduceMul, Nat.reduceMul, ms_n, ms_i, ms_l, ms_p, PM]
    refine cal_of rfl (m_actOf hF (by omega) ?_)
    rw [Int.toNat_natCast, a4]
    simp (decide := true) only [RR, ms_app, toList_some, toList_none, if_true, if_false, true_and, and_true, cond_true, sm0, sm1, sm1l, sm2, lc_lt, lc_gt, lc_eq, Int.toNat_natCast, Int.reduceToNat, Nat.reduceAdd, Nat.reduceEqDiff, Int.reduceLT, Int.reduceEq, Int.reduceNeg, Int.reduceAdd, Int.reduceMul, Nat.reduceMul, ms_n, ms_i, ms_l, ms_p, PM]
    by_cases h2 : w.2.2.2.2 p = -1
    · rw [if_pos h2]
      have four : ∀ v σ', Fr [216] [(146, 95), (146, 46)] σ σ' → v = cutA (tellP C w (fun _ => 0) 0 p) → At (d + 5) 190 4 [some (.inr (.inr 146)), some (.inl (p : Int))] [.inl v] σ' K := by
        intro v σ' fr hv
        refine At.blk rfl rfl rfl fun sx => ?_
        simp (decide := true) only [RR, ms_app, toList_some, toList_none, if_true, if_false, true_and, and_true, cond_true, sm0, sm1, sm1l, sm2, lc_lt, lc_gt, lc_eq, Int.toNat_natCast, Int.reduceToNat, Nat.reduceAdd, Nat.reduceEqDiff, Int.reduceLT, Int.reduceEq, Int.reduceNeg, Int.reduceAdd, Int.reduceMul, Nat.reduceMul, ms_n, ms_i, ms_l, ms_p, PM]
        have := hK σ' fr
        rw [if_neg h1, if_pos h2] at this
        rw [hv]; exact this
      refine At.blk rfl rfl rfl fun sx => ?_
      simp (decide := true) only [RR, ms_app, toList_some, toList_none, if_true, if_false, true_and, and_true, cond_true, sm0, sm1, sm1l, sm2, lc_lt, lc_gt, lc_eq, Int.toNat_natCast, Int.reduceToNat, Nat.reduceAdd, Nat.reduceEqDiff, Int.reduceLT, Int.reduceEq, Int.reduceNeg, Int.reduceAdd, Int.reduceMul, Nat.reduceMul, ms_n, ms_i, ms_l, ms_p, PM, fxM hF]
      by_cases h3 : σ 179 3 = -1
      · rw [if_pos h3]
        refine cal_of rfl (m_airOf hF (by omega) ?_)
        rw [Int.toNat_natCast, a1]
        simp (decide := true) only [RR, ms_app, toList_some, toList_none, if_true, if_false, true_and, and_true, cond_true, sm0, sm1, sm1l, sm2, lc_lt, lc_gt, lc_eq, Int.toNat_natCast, Int.reduceToNat, Nat.reduceAdd, Nat.reduceEqDiff, Int.reduceLT, Int.reduceEq, Int.reduceNeg, Int.reduceAdd, Int.reduceMul, Nat.reduceMul, ms_n, ms_i, ms_l, ms_p, PM]
        refine four _ σ Fr.same ?_
        have e : C.2.2.2 0 = [40] := by
          rcases hc.2.2.2 0 (by decide) with h | ⟨f, h, _⟩
          · exact h.2
          · rw [Nat.add_zero] at h; omega
        rw [tell1 e (by decide)]
        unfold valC
        rw [if_pos rfl, cutA_id av.1]
      · rw [if_neg h3]
        refine At.blk rfl rfl rfl fun sx => ?_
        simp (decide := true) only [RR, ms_app, toList_some, toList_none, if_true, if_false, true_and, and_true, cond_true, sm0, sm1, sm1l, sm2, lc_lt, lc_gt, lc_eq, Int.toNat_natCast, Int.reduceToNat, Nat.reduceAdd, Nat.reduceEqDiff, Int.reduceLT, Int.reduceEq, Int.reduceNeg, Int.reduceAdd, Int.reduceMul, Nat.reduceMul, ms_n, ms_i, ms_l, ms_p, PM]
        refine cal_of rfl (m_codesTell (r := 0) (t := fun _ => 0) hF hC hw hp hc hs (fun h => absurd h h45) (by decide) (by decide) h3 (fun σ' fr => ?_))
        simp (decide := true) only [RR, ms_app, toList_some, toList_none, if_true, if_false, true_and, and_true, cond_true, sm0, sm1, sm1l, sm2, lc_lt, lc_gt, lc_eq, Int.toNat_natCast, Int.reduceToNat, Nat.reduceAdd, Nat.reduceEqDiff, Int.reduceLT, Int.reduceEq, Int.reduceNeg, Int.reduceAdd, Int.reduceMul, Nat.reduceMul, ms_n, ms_i, ms_l, ms_p, PM]
        refine cal_of rfl (m_cutAir ?_)
        simp (decide := true) only [RR, ms_app, toList_some, toList_none, if_true, if_false, true_and, and_true, cond_true, sm0, sm1, sm1l, sm2, lc_lt, lc_gt, lc_eq, Int.toNat_natCast, Int.reduceToNat, Nat.reduceAdd, Nat.reduceEqDiff, Int.reduceLT, Int.reduceEq, Int.reduceNeg, Int.reduceAdd, Int.reduceMul, Nat.reduceMul, ms_n, ms_i, ms_l, ms_p, PM]
        exact four _ σ' fr rfl
    · rw [if_neg h2]
      refine cal_of rfl (m_actOf hF (by omega) ?_)
      rw [Int.toNat_natCast, a4]
      simp (decide := true) only [RR, ms_app, toList_some, toList_none, if_true, if_false, true_and, and_true, cond_true, sm0, sm1, sm1l, sm2, lc_lt, lc_gt, lc_eq, Int.toNat_natCast, Int.reduceToNat, Nat.reduceAdd, Nat.reduceEqDiff, Int.reduceLT, Int.reduceEq, Int.reduceNeg, Int.reduceAdd, Int.reduceMul, Nat.reduceMul, ms_n, ms_i, ms_l, ms_p, PM]
      have := hK σ Fr.same
      rw [if_neg h1, if_neg h2] at this
      exact this
theorem m_rivalFor {C : Ct} {w : Sk} {p : Nat} (hF : Fix σ) (hC : CtV C) (hw : SkV C w) (hp : p < C.1) (hc : CtM σ C) (hs : SkM σ C w) (hK : ∀ σ', Fr [216] [(146, 95), (146, 46)] σ σ' → K (some (.inl (rivP C w p))) σ') : Mt (d + 6) 191 [.inr (.inr 146), .inl (p : Int)] σ K := by
  refine Mt.go (lv := [some (.inr (.inr 146)), some (.inl (p : Int))]) rfl rfl rfl ?_
  have n7 := hC.1
  have av := hw.2 p hp
  have h45 := (hC.2.2.2 1 (by decide)).2.1 (by decide)
  have two : ∀ v σ', Fr [216] [(146, 95), (146, 46)] σ σ' → v = rivP C w p → At (d + 5) 191 2 [some (.inr (.inr 146)), some (.inl (p : Int))] [.inl v] σ' K := by
    intro v σ' fr hv
    refine At.blk rfl rfl rfl fun sx => ?_
    simp (decide := true) only [RR, ms_app, toList_some, toList_none, if_true, if_false, true_and, and_true, cond_true, sm0, sm1, sm1l, sm2, lc_lt, lc_gt, lc_eq, Int.toNat_natCast, Int.reduceToNat, Nat.reduceAdd, Nat.reduceEqDiff, Int.reduceLT, Int.reduceEq, Int.reduceNeg, Int.reduceAdd, Int.reduceMul, Nat.reduceMul, ms_n, ms_i, ms_l, ms_p, PM]
    rw [hv]; exact hK σ' fr
  refine At.blk rfl rfl rfl fun sx => ?_
  simp (decide := true) only [RR, ms_app, toList_some, toList_none, if_true, if_false, true_and, and_true, cond_true, sm0, sm1, sm1l, sm2, lc_lt, lc_gt, lc_eq, Int.toNat_natCast, Int.reduceToNat, Nat.reduceAdd, Nat.reduceEqDiff, Int.reduceLT, Int.reduceEq, Int.reduceNeg, Int.reduceAdd, Int.reduceMul, Nat.reduceMul, ms_n, ms_i, ms_l, ms_p, PM, fxM hF]
  by_cases h3 : σ 179 4 = -1
  · rw [if_pos h3]
    refine cal_of rfl (m_aroundOf (mo := true) (Or.inl ⟨rfl, rfl⟩) hF hC hw hp hc hs ?_)
    simp (decide := true) only [RR, ms_app, toList_some, toList_none, if_true, if_false, true_and, and_true, cond_true, sm0, sm1, sm1l, sm2, lc_lt, lc_gt, lc_eq, Int.toNat_natCast, Int.reduceToNat, Nat.reduceAdd, Nat.reduceEqDiff, Int.reduceLT, Int.reduceEq, Int.reduceNeg, Int.reduceAdd, Int.reduceMul, Nat.reduceMul, ms_n, ms_i, ms_l, ms_p, PM]
    refine two _ σ Fr.same ?_
    have e : C.2.2.2 1 = [41] := by
      rcases hc.2.2.2 1 (by decide) with h | ⟨f, h, _⟩
      · exact h.2
      · rw [show 3 + 1 = 4 from rfl] at h; omega
    unfold rivP
    rw [tell1 e (by decide)]
    unfold valC
    rw [if_neg (by decide), if_pos rfl, cutA_id (around_le hw hp)]
  · rw [if_neg h3]
    refine At.blk rfl rfl rfl fun sx => ?_
    simp (decide := true) only [RR, ms_app, toList_some, toList_none, if_true, if_false, true_and, and_true, cond_true, sm0, sm1, sm1l, sm2, lc_lt, lc_gt, lc_eq, Int.toNat_natCast, Int.reduceToNat, Nat.reduceAdd, Nat.reduceEqDiff, Int.reduceLT, Int.reduceEq, Int.reduceNeg, Int.reduceAdd, Int.reduceMul, Nat.reduceMul, ms_n, ms_i, ms_l, ms_p, PM]
    refine cal_of rfl (m_codesTell (r := 1) (t := fun _ => 0) hF hC hw hp hc hs (fun h => absurd h h45) (by decide) (by decide) h3 (fun σ' fr => ?_))
    simp (decide := true) only [RR, ms_app, toList_some, toList_none, if_true, if_false, true_and, and_true, cond_true, sm0, sm1, sm1l, sm2, lc_lt, lc_gt, lc_eq, Int.toNat_natCast, Int.reduceToNat, Nat.reduceAdd, Nat.reduceEqDiff, Int.reduceLT, Int.reduceEq, Int.reduceNeg, Int.reduceAdd, Int.reduceMul, Nat.reduceMul, ms_n, ms_i, ms_l, ms_p, PM]
    refine cal_of rfl (m_cutAir ?_)
    simp (decide := true) only [RR, ms_app, toList_some, toList_none, if_true, if_false, true_and, and_true, cond_true, sm0, sm1, sm1l, sm2, lc_lt, lc_gt, lc_eq, Int.toNat_natCast, Int.reduceToNat, Nat.reduceAdd, Nat.reduceEqDiff, Int.reduceLT, Int.reduceEq, Int.reduceNeg, Int.reduceAdd, Int.reduceMul, Nat.reduceMul, ms_n, ms_i, ms_l, ms_p, PM]
    exact two _ σ' fr rfl
theorem m_laysTold {C : Ct} {w : Sk} (hF : Fix σ) (hC : CtV C) (hw : SkV C w) (hc : CtM σ C) (hs : SkM σ C w) (hK : ∀ σ', Fr mwL mwT σ σ' → (∀ p, p < C.1 → σ' 185 p = readP C w p ∧ σ' 186 p = rivP C w p ∧ σ' 184 p = tolP C w p) → K none σ') : Mt (d + 7) 192 [.inr (.inr 146)] σ K := by
  refine Mt.go (lv := [some (.inr (.inr 146)), none]) rfl rfl rfl ?_
  have n7 := hC.1
  refine At.blk rfl rfl rfl fun sx => ?_
  simp (decide := true) only [RR, ms_app, toList_some, toList_none, if_true, if_false, true_and, and_true, cond_true, sm0, sm1, sm1l, sm2, lc_lt, lc_gt, lc_eq, Int.toNat_natCast, Int.reduceToNat, Nat.reduceAdd, Nat.reduceEqDiff, Int.reduceLT, Int.reduceEq, Int.reduceNeg, Int.reduceAdd, Int.reduceMul, Nat.reduceMul, ms_n, ms_i, ms_l, ms_p, PM]
  have loop : ∀ m k : Nat, C.1 - k = m → k ≤ C.1 → ∀ σ', Fr mwL mwT σ σ' → (∀ p, p < k → σ' 185 p = readP C w p ∧ σ' 186 p = rivP C w p ∧ σ' 184 p = tolP C w p) → At (d + 6) 192 1 [some (.inr (.inr 146)), some (.inl (k : Int))] [] σ' K := by
    intro m
    induction m with
    | zero =>
      intro k hk hk2 σ' fr hL
      obtain rfl : k = C.1 := by omega
      have hF' := hF.fr fr rfl
      refine At.blk rfl rfl rfl fun sx => ?_
      simp (decide := true) only [RR, ms_app, toList_some, toList_none, if_true, if_false, true_and, and_true, cond_true, sm0, sm1, sm1l, sm2, lc_lt, lc_gt, lc_eq, Int.toNat_natCast, Int.reduceToNat, Nat.reduceAdd, Nat.reduceEqDiff, Int.reduceLT, Int.reduceEq, Int.reduceNeg, Int.reduceAdd, Int.reduceMul, Nat.reduceMul, ms_n, ms_i, ms_l, ms_p, PM]
      refine cal_of rfl (m_partMany hF' ?_)
      simp (decide := true) only [RR, ms_app, toList_some, toList_none, if_true, if_false, true_and, and_true, cond_true, sm0, sm1, sm1l, sm2, lc_lt, lc_gt, lc_eq, Int.toNat_natCast, Int.reduceToNat, Nat.reduceAdd, Nat.reduceEqDiff, Int.reduceLT, Int.reduceEq, Int.reduceNeg, Int.reduceAdd, Int.reduceMul, Nat.reduceMul, ms_n, ms_i, ms_l, ms_p, PM, (fr 173 2 rfl).trans hc.1]
      rw [if_neg (by omega)]
      refine At.blk rfl rfl rfl fun sx => ?_
      simp (decide := true) only [RR, ms_app, toList_some, toList_none, if_true, if_false, true_and, and_true, cond_true, sm0, sm1, sm1l, sm2, lc_lt, lc_gt, lc_eq, Int.toNat_natCast, Int.reduceToNat, Nat.reduceAdd, Nat.reduceEqDiff, Int.reduceLT, Int.reduceEq, Int.reduceNeg, Int.reduceAdd, Int.reduceMul, Nat.reduceMul, ms_n, ms_i, ms_l, ms_p, PM]
      exact hK σ' fr hL
    | succ m ih =>
      intro k hk hk2 σ' fr hL
      have hk3 : k < C.1 := by omega
      have hF' := hF.fr fr rfl
      have w1 : Unit → w32 ((k : Int) + 1) = ((k + 1 : Nat) : Int) := fun _ => by rw [w32_small (by omega) (by omega)]; omega
      refine At.blk rfl rfl rfl fun sx => ?_
      simp (decide := true) only [RR, ms_app, toList_some, toList_none, if_true, if_false, true_and, and_true, cond_true, sm0, sm1, sm1l, sm2, lc_lt, lc_gt, lc_eq, Int.toNat_natCast, Int.reduceToNat, Nat.reduceAdd, Nat.reduceEqDiff, Int.reduceLT, Int.reduceEq, Int.reduceNeg, Int.reduceAdd, Int.reduceMul, Nat.reduceMul, ms_n, ms_i, ms_l, ms_p, PM, fxM hF']
      refine cal_of rfl (m_partMany hF' ?_)
      simp (decide := true) only [RR, ms_app, toList_some, toList_none, if_true, if_false, true_and, and_true, cond_true, sm0, sm1, sm1l, sm2, lc_lt, lc_gt, lc_eq, Int.toNat_natCast, Int.reduceToNat, Nat.reduceAdd, Nat.reduceEqDiff, Int.reduceLT, Int.reduceEq, Int.reduceNeg, Int.reduceAdd, Int.reduceMul, Nat.reduceMul, ms_n, ms_i, ms_l, ms_p, PM, fxM hF', (fr 173 2 rfl).trans hc.1]
      rw [if_pos (by omega)]
      refine cal_of rfl (m_readFor hF' hC hw hk3 (hc.mw fr) (hs.mw n7 fr) (fun σ1 f1 => ?_))
      have F1 : Fr mwL mwT σ σ1 := fr.trans (f1.mono rfl)
      have hF1 := hF.fr F1 rfl
      simp (decide := true) only [RR, ms_app, toList_some, toList_none, if_true, if_false, true_and, and_true, cond_true, sm0, sm1, sm1l, sm2, lc_lt, lc_gt, lc_eq, Int.toNat_natCast, Int.reduceToNat, Nat.reduceAdd, Nat.reduceEqDiff, Int.reduceLT, Int.reduceEq, Int.reduceNeg, Int.reduceAdd, Int.reduceMul, Nat.reduceMul, ms_n, ms_i, ms_l, ms_p, PM, fxM hF1]
      refine ⟨⟨by omega, by omega⟩, ?_⟩
      generalize hσ2 : mj_set σ1 185 k (readP C w k) = σ2
      have F2 : Fr mwL mwT σ σ2 := by rw [← hσ2]; exact F1.setr rfl
      have g2 : Fr [185, 216] mwT σ' σ2 := by rw [← hσ2]; exact (f1.mono rfl).setr rfl
      have r2 : σ2 185 k = readP C w k := by rw [← hσ2, ms_app, if_pos rfl, if_pos rfl]
      have s2 : ∀ p, p ≠ k → σ2 185 p = σ' 185 p := fun p hp => by rw [← hσ2, ms_app, if_pos rfl, if_neg hp]; exact f1 185 p rfl
      have hF2 := hF.fr F2 rfl
      refine cal_of rfl (m_rivalFor hF2 hC hw hk3 (hc.mw F2) (hs.mw n7 F2) (fun σ3 f3 => ?_))
      have F3 : Fr mwL mwT σ σ3 := F2.trans (f3.mono rfl)
      have hF3 := hF.fr F3 rfl
      simp (decide := true) only [RR, ms_app, toList_some, toList_none, if_true, if_false, true_and, and_true, cond_true, sm0, sm1, sm1l, sm2, lc_lt, lc_gt, lc_eq, Int.toNat_natCast, Int.reduceToNat, Nat.reduceAdd, Nat.reduceEqDiff, Int.reduceLT, Int.reduceEq, Int.reduceNeg, Int.reduceAdd, Int.reduceMul, Nat.reduceMul, ms_n, ms_i, ms_l, ms_p, PM, fxM hF3]
      refine ⟨⟨by omega, by omega⟩, ?_⟩
      generalize hσ4 : mj_set σ3 186 k (rivP C w k) = σ4
      have F4 : Fr mwL mwT σ σ4 := by rw [← hσ4]; exact F3.setr rfl
      have hF4 := hF.fr F4 rfl
      have r4 : σ4 185 k = readP C w k := by rw [← hσ4, ms_row (by decide), f3 185 k rfl, r2]
      have q4 : σ4 186 k = rivP C w k := by rw [← hσ4, ms_app, if_pos rfl, if_pos rfl]
      have s4 : ∀ p, p ≠ k → σ4 185 p = σ' 185 p ∧ σ4 186 p = σ' 186 p ∧ σ4 184 p = σ' 184 p := by
        intro p hp
        refine ⟨?_, ?_, ?_⟩
        · rw [← hσ4, ms_row (by decide), f3 185 p rfl, s2 p hp]
        · rw [← hσ4, ms_app, if_pos rfl, if_neg hp, f3 186 p rfl, g2 186 p rfl]
        · rw [← hσ4, ms_row (by decide), f3 184 p rfl, g2 184 p rfl]
      have a4 := (hs.mw n7 F4).2 k hk3
      have fin : ∀ v, v = tolP C w k → At (d + 6) 192 4 [some (.inr (.inr 146)), some (.inl (k : Int))] [.inl v, .inl (k : Int), .inr (.inr 184)] σ4 K := by
        intro v hv
        refine At.blk rfl rfl rfl fun sx => ?_
        simp (decide := true) only [RR, ms_app, toList_some, toList_none, if_true, if_false, true_and, and_true, cond_true, sm0, sm1, sm1l, sm2, lc_lt, lc_gt, lc_eq, Int.toNat_natCast, Int.reduceToNat, Nat.reduceAdd, Nat.reduceEqDiff, Int.reduceLT, Int.reduceEq, Int.reduceNeg, Int.reduceAdd, Int.reduceMul, Nat.reduceMul, ms_n, ms_i, ms_l, ms_p, PM, w1 ()]
        refine ⟨⟨by omega, by omega⟩, ?_⟩
        refine ih (k + 1) (by omega) (by omega) _ (F4.setr rfl) (fun p hp => ?_)
        rw [ms_row (by decide), ms_row (by decide), ms_app, if_pos rfl]
        by_cases e : p = k
        · subst e
          rw [if_pos rfl]
          exact ⟨r4, q4, hv⟩
        · rw [if_neg e, (s4 p e).1, (s4 p e).2.1, (s4 p e).2.2]
          exact hL p (by omega)
      unfold tolP at fin
      have two : (w.2.2.2.1 k = 1 ∨ readP C w k = -1) → At (d + 6) 192 2 [some (.inr (.inr 146)), some (.inl (k : Int))] [.inl (k : Int), .inr (.inr 184)] σ4 K := by
        intro hh
        refine At.blk rfl rfl rfl fun sx => ?_
        simp (decide := true) only [RR, ms_app, toList_some, toList_none, if_true, if_false, true_and, and_true, cond_true, sm0, sm1, sm1l, sm2, lc_lt, lc_gt, lc_eq, Int.toNat_natCast, Int.reduceToNat, Nat.reduceAdd, Nat.reduceEqDiff, Int.reduceLT, Int.reduceEq, Int.reduceNeg, Int.reduceAdd, Int.reduceMul, Nat.reduceMul, ms_n, ms_i, ms_l, ms_p, PM]
        refine cal_of rfl (m_airOf hF4 (by omega) ?_)
        rw [Int.toNat_natCast, a4.1]
        simp (decide := true) only [RR, ms_app, toList_some, toList_none, if_true, if_false, true_and, and_true, cond_true, sm0, sm1, sm1l, sm2, lc_lt, lc_gt, lc_eq, Int.toNat_natCast, Int.reduceToNat, Nat.reduceAdd, Nat.reduceEqDiff, Int.reduceLT, Int.reduceEq, Int.reduceNeg, Int.reduceAdd, Int.reduceMul, Nat.reduceMul, ms_n, ms_i, ms_l, ms_p, PM]
        exact fin _ (by rw [if_pos hh])
      refine cal_of rfl (m_isDeaf hF4 (by omega) (fun h2 => ?_) (fun h2 => ?_))
      · rw [Int.toNat_natCast, a4.2.2.1] at h2
        simp (decide := true) only [RR, ms_app, toList_some, toList_none, if_true, if_false, true_and, and_true, cond_true, sm0, sm1, sm1l, sm2, lc_lt, lc_gt, lc_eq, Int.toNat_natCast, Int.reduceToNat, Nat.reduceAdd, Nat.reduceEqDiff, Int.reduceLT, Int.reduceEq, Int.reduceNeg, Int.reduceAdd, Int.reduceMul, Nat.reduceMul, ms_n, ms_i, ms_l, ms_p, PM]
        exact two (Or.inl h2)
      · rw [Int.toNat_natCast, a4.2.2.1] at h2
        simp (decide := true) only [RR, ms_app, toList_some, toList_none, if_true, if_false, true_and, and_true, cond_true, sm0, sm1, sm1l, sm2, lc_lt, lc_gt, lc_eq, Int.toNat_natCast, Int.reduceToNat, Nat.reduceAdd, Nat.reduceEqDiff, Int.reduceLT, Int.reduceEq, Int.reduceNeg, Int.reduceAdd, Int.reduceMul, Nat.reduceMul, ms_n, ms_i, ms_l, ms_p, PM, fxM hF4, r4]
        refine ⟨⟨by omega, by omega⟩, ?_⟩
        by_cases h3 : readP C w k = -1
        · rw [if_pos h3]
          exact two (Or.inr h3)
        · rw [if_neg h3]
          refine At.blk rfl rfl rfl fun sx => ?_
          simp (decide := true) only [RR, ms_app, toList_some, toList_none, if_true, if_false, true_and, and_true, cond_true, sm0, sm1, sm1l, sm2, lc_lt, lc_gt, lc_eq, Int.toNat_natCast, Int.reduceToNat, Nat.reduceAdd, Nat.reduceEqDiff, Int.reduceLT, Int.reduceEq, Int.reduceNeg, Int.reduceAdd, Int.reduceMul, Nat.reduceMul, ms_n, ms_i, ms_l, ms_p, PM, fxM hF4, r4]
          refine ⟨⟨by omega, by omega⟩, ?_⟩
          refine fin _ ?_
          rw [if_neg (fun h => by rcases h with h | h; exact h2 h; exact h3 h)]
  exact loop C.1 0 rfl (by omega) σ Fr.same (fun p hp => by omega)
theorem m_laysNight {C : Ct} {w : Sk} (hF : Fix σ) (hC : CtV C) (hw : SkV C w) (hc : CtM σ C) (hs : SkM σ C w) (hK : ∀ σ', Fr mwL mwT σ σ' → (∀ p, p < C.1 → σ' 185 p = readP C w p ∧ σ' 186 p = rivP C w p ∧ σ' 184 p = tolP C w p) → (∀ p, p < C.1 → σ' 187 p = thnP C w p) → K none σ') : Mt (d + 8) 193 [.inr (.inr 146)] σ K := by
  refine Mt.go (lv := [some (.inr (.inr 146)), none]) rfl rfl rfl ?_
  have n7 := hC.1
  refine At.blk rfl rfl rfl fun sx => ?_
  simp (decide := true) only [RR, ms_app, toList_some, toList_none, if_true, if_false, true_and, and_true, cond_true, sm0, sm1, sm1l, sm2, lc_lt, lc_gt, lc_eq, Int.toNat_natCast, Int.reduceToNat, Nat.reduceAdd, Nat.reduceEqDiff, Int.reduceLT, Int.reduceEq, Int.reduceNeg, Int.reduceAdd, Int.reduceMul, Nat.reduceMul, ms_n, ms_i, ms_l, ms_p, PM]
  refine cal_of rfl (m_laysTold hF hC hw hc hs (fun σ0 f0 h0 => ?_))
  simp (decide := true) only [RR, ms_app, toList_some, toList_none, if_true, if_false, true_and, and_true, cond_true, sm0, sm1, sm1l, sm2, lc_lt, lc_gt, lc_eq, Int.toNat_natCast, Int.reduceToNat, Nat.reduceAdd, Nat.reduceEqDiff, Int.reduceLT, Int.reduceEq, Int.reduceNeg, Int.reduceAdd, Int.reduceMul, Nat.reduceMul, ms_n, ms_i, ms_l, ms_p, PM]
  have loop : ∀ m k : Nat, C.1 - k = m → k ≤ C.1 → ∀ σ', Fr [187, 216] mwT σ0 σ' → (∀ p, p < k → σ' 187 p = thnP C w p) → At (d + 7) 193 1 [some (.inr (.inr 146)), some (.inl (k : Int))] [] σ' K := by
    intro m
    induction m with
    | zero =>
      intro k hk hk2 σ' fr hL
      obtain rfl : k = C.1 := by omega
      have F : Fr mwL mwT σ σ' := f0.trans (fr.mono rfl)
      have hF' := hF.fr F rfl
      refine At.blk rfl rfl rfl fun sx => ?_
      simp (decide := true) only [RR, ms_app, toList_some, toList_none, if_true, if_false, true_and, and_true, cond_true, sm0, sm1, sm1l, sm2, lc_lt, lc_gt, lc_eq, Int.toNat_natCast, Int.reduceToNat, Nat.reduceAdd, Nat.reduceEqDiff, Int.reduceLT, Int.reduceEq, Int.reduceNeg, Int.reduceAdd, Int.reduceMul, Nat.reduceMul, ms_n, ms_i, ms_l, ms_p, PM]
      refine cal_of rfl (m_partMany hF' ?_)
      simp (decide := true) only [RR, ms_app, toList_some, toList_none, if_true, if_false, true_and, and_true, cond_true, sm0, sm1, sm1l, sm2, lc_lt, lc_gt, lc_eq, Int.toNat_natCast, Int.reduceToNat, Nat.reduceAdd, Nat.reduceEqDiff, Int.reduceLT, Int.reduceEq, Int.reduceNeg, Int.reduceAdd, Int.reduceMul, Nat.reduceMul, ms_n, ms_i, ms_l, ms_p, PM, (F 173 2 rfl).trans hc.1]
      rw [if_neg (by omega)]
      refine At.blk rfl rfl rfl fun sx => ?_
      simp (decide := true) only [RR, ms_app, toList_some, toList_none, if_true, if_false, true_and, and_true, cond_true, sm0, sm1, sm1l, sm2, lc_lt, lc_gt, lc_eq, Int.toNat_natCast, Int.reduceToNat, Nat.reduceAdd, Nat.reduceEqDiff, Int.reduceLT, Int.reduceEq, Int.reduceNeg, Int.reduceAdd, Int.reduceMul, Nat.reduceMul, ms_n, ms_i, ms_l, ms_p, PM]
      exact hK σ' F (fun p hp => by rw [fr 185 p rfl, fr 186 p rfl, fr 184 p rfl]; exact h0 p hp) hL
    | succ m ih =>
      intro k hk hk2 σ' fr hL
      have hk3 : k < C.1 := by omega
      have F : Fr mwL mwT σ σ' := f0.trans (fr.mono rfl)
      have hF' := hF.fr F rfl
      have w1 : Unit → w32 ((k : Int) + 1) = ((k + 1 : Nat) : Int) := fun _ => by rw [w32_small (by omega) (by omega)]; omega
      have tk : σ' 184 k = tolP C w k := (fr 184 k rfl).trans (h0 k hk3).2.2
      have tb := tol_le hw hk3
      have hcM := hc.mw F
      have fin : ∀ v σ1, Fr [216] [(146, 95), (146, 46)] σ' σ1 → v = thnP C w k → At (d + 7) 193 3 [some (.inr (.inr 146)), some (.inl (k : Int))] [.inl v, .inl (k : Int), .inr (.inr 187)] σ1 K := by
        intro v σ1 f1 hv
        refine At.blk rfl rfl rfl fun sx => ?_
        simp (decide := true) only [RR, ms_app, toList_some, toList_none, if_true, if_false, true_and, and_true, cond_true, sm0, sm1, sm1l, sm2, lc_lt, lc_gt, lc_eq, Int.toNat_natCast, Int.reduceToNat, Nat.reduceAdd, Nat.reduceEqDiff, Int.reduceLT, Int.reduceEq, Int.reduceNeg, Int.reduceAdd, Int.reduceMul, Nat.reduceMul, ms_n, ms_i, ms_l, ms_p, PM, w1 ()]
        refine ⟨⟨by omega, by omega⟩, ?_⟩
        refine ih (k + 1) (by omega) (by omega) _ ((fr.trans (f1.mono rfl)).setr rfl) (fun p hp => ?_)
        rw [ms_app, if_pos rfl]
        by_cases e : p = k
        · rw [if_pos e, hv, e]
        · rw [if_neg e, f1 187 p rfl]
          exact hL p (by omega)
      refine At.blk rfl rfl rfl fun sx => ?_
      simp (decide := true) only [RR, ms_app, toList_some, toList_none, if_true, if_false, true_and, and_true, cond_true, sm0, sm1, sm1l, sm2, lc_lt, lc_gt, lc_eq, Int.toNat_natCast, Int.reduceToNat, Nat.reduceAdd, Nat.reduceEqDiff, Int.reduceLT, Int.reduceEq, Int.reduceNeg, Int.reduceAdd, Int.reduceMul, Nat.reduceMul, ms_n, ms_i, ms_l, ms_p, PM, fxM hF']
      refine cal_of rfl (m_partMany hF' ?_)
      simp (decide := true) only [RR, ms_app, toList_some, toList_none, if_true, if_false, true_and, and_true, cond_true, sm0, sm1, sm1l, sm2, lc_lt, lc_gt, lc_eq, Int.toNat_natCast, Int.reduceToNat, Nat.reduceAdd, Nat.reduceEqDiff, Int.reduceLT, Int.reduceEq, Int.reduceNeg, Int.reduceAdd, Int.reduceMul, Nat.reduceMul, ms_n, ms_i, ms_l, ms_p, PM, fxM hF', (F 173 2 rfl).trans hc.1]
      rw [if_pos (by omega)]
      by_cases h3 : σ' 179 5 = -1
      · rw [if_pos h3]
        refine ⟨⟨by omega, by omega⟩, ?_⟩
        refine fin _ σ' Fr.same ?_
        have e : C.2.2.2 2 = [45] := by
          rcases hcM.2.2.2 2 (by decide) with h | ⟨f, h, _⟩
          · exact h.2
          · rw [show 3 + 2 = 5 from rfl] at h; omega
        unfold thnP
        rw [tell1 e (by decide)]
        unfold valC
        rw [if_neg (by decide), if_neg (by decide), if_neg (by decide), if_neg (by decide), if_neg (by decide), if_pos rfl, cutA_id tb, tk]
      · rw [if_neg h3]
        refine At.blk rfl rfl rfl fun sx => ?_
        simp (decide := true) only [RR, ms_app, toList_some, toList_none, if_true, if_false, true_and, and_true, cond_true, sm0, sm1, sm1l, sm2, lc_lt, lc_gt, lc_eq, Int.toNat_natCast, Int.reduceToNat, Nat.reduceAdd, Nat.reduceEqDiff, Int.reduceLT, Int.reduceEq, Int.reduceNeg, Int.reduceAdd, Int.reduceMul, Nat.reduceMul, ms_n, ms_i, ms_l, ms_p, PM]
        refine cal_of rfl (m_codesTell (r := 2) (t := tolP C w) hF' hC hw hk3 hcM (hs.mw n7 F) (fun _ => tk) (by omega) (by decide) h3 (fun σ1 f1 => ?_))
        simp (decide := true) only [RR, ms_app, toList_some, toList_none, if_true, if_false, true_and, and_true, cond_true, sm0, sm1, sm1l, sm2, lc_lt, lc_gt, lc_eq, Int.toNat_natCast, Int.reduceToNat, Nat.reduceAdd, Nat.reduceEqDiff, Int.reduceLT, Int.reduceEq, Int.reduceNeg, Int.reduceAdd, Int.reduceMul, Nat.reduceMul, ms_n, ms_i, ms_l, ms_p, PM]
        refine cal_of rfl (m_cutAir ?_)
        simp (decide := true) only [RR, ms_app, toList_some, toList_none, if_true, if_false, true_and, and_true, cond_true, sm0, sm1, sm1l, sm2, lc_lt, lc_gt, lc_eq, Int.toNat_natCast, Int.reduceToNat, Nat.reduceAdd, Nat.reduceEqDiff, Int.reduceLT, Int.reduceEq, Int.reduceNeg, Int.reduceAdd, Int.reduceMul, Nat.reduceMul, ms_n, ms_i, ms_l, ms_p, PM]
        exact fin _ σ1 f1 rfl
  exact loop C.1 0 rfl (by omega) σ0 Fr.same (fun p hp => by omega)
end
