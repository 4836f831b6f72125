def naT : List (Nat × Nat) := [(146, 2), (146, 4), (146, 5), (146, 6), (146, 34)]
section
variable {d : Nat} {σ : mM} {K : Option mV → mM → Prop} {N : Nat} {t : Nat → Int} {s : Nat} {g : Bool}
theorem enc27_nm {t : Nat → Int} {s : Nat} : ∀ n, (∀ k, k < n → 97 ≤ t (s + k) ∧ t (s + k) ≤ 122) → 0 ≤ enc27 (nmL t s n) 0 ∧ enc27 (nmL t s n) 0 + 1 ≤ 27 ^ n
  | 0, _ => ⟨by show (0 : Int) ≤ 0; omega, by show (0 : Int) + 1 ≤ 1; omega⟩
  | n + 1, h => by
    obtain ⟨i1, i2⟩ := enc27_nm n (fun k hk => h k (by omega))
    have := h n (by omega)
    rw [nmL_s, enc27_app, Int.pow_succ]
    omega
theorem ltr_run {N : Nat} {t : Nat → Int} : ∀ m i : Nat, N - i = m → i ≤ N → ∃ e, RunP ltr N t i e
  | 0, i, h, hi => ⟨i, Nat.le_refl _, hi, fun k h1 h2 => absurd h1 (by omega), fun h1 => absurd h1 (by omega)⟩
  | m + 1, i, h, hi => by
    by_cases c : ltr (t i)
    · obtain ⟨e, e1, e2, e3, e4⟩ := ltr_run (N := N) (t := t) m (i + 1) (by omega) (by omega)
      refine ⟨e, by omega, e2, fun k h1 h2 => ?_, e4⟩
      by_cases ck : k = i
      · rw [ck]; exact c
      · exact e3 k (by omega) h2
    · exact ⟨i, Nat.le_refl _, hi, fun k h1 h2 => absurd h1 (by omega), fun _ => c⟩
theorem m_name (hF : Fix σ) (hT : TxM σ N t) (hb : σ 146 5 = 0) (hP : PosM σ N t s g) (h1 : ∀ σ' e s', IsNa N t s g e → Skp N t e s' → PosM σ' N t s' (decide (s' = e)) → σ' 146 34 = (s : Int) → σ' 146 5 = 0 → σ' 146 6 = σ 146 6 → Fr [] naT σ σ' → K (some (.inr (.inl (enc27 (nmL t s (e - s)) 0)))) σ') (h0 : ∀ σ' p, NaF N t s g 1 p → σ' 146 5 = 1 → σ' 146 6 = p → Fr [] naT σ σ' → K (some (.inr (.inl 0))) σ') : Mt (d + 4) 166 [.inr (.inr 146)] σ K := by
  refine Mt.go (lv := [some (.inr (.inr 146)), none, none]) rfl rfl rfl ?_
  have n16 := hT.2.1
  have two : ∀ σ', Fr [] lkT σ σ' → PosA σ' N t s g → NaF N t s g 1 (s : Int) → At (d + 3) 166 2 [some (.inr (.inr 146)), none, none] [] σ' K := by
    intro σ' f p h
    have hb' : σ' 146 5 = 0 := (f 146 5 rfl).trans hb
    refine At.blk rfl rfl rfl fun sx => ?_
    simp (decide := true) only [RR, ms_app, toList_some, toList_none, if_true, if_false, true_and, and_true, cond_true, sm0, sm1, sm1l, sm2, lc_lt, lc_gt, lc_eq, Int.toNat_natCast, Int.reduceToNat, Nat.reduceAdd, Nat.reduceEqDiff, Int.reduceLT, Int.reduceEq, Int.reduceNeg, Int.reduceAdd, Int.reduceMul, Nat.reduceMul, ms_n, ms_i, ms_l, ms_p, PM, p.1]
    refine cal_of rfl (m_fail hb' ?_)
    simp (decide := true) only [RR, ms_app, toList_some, toList_none, if_true, if_false, true_and, and_true, cond_true, sm0, sm1, sm1l, sm2, lc_lt, lc_gt, lc_eq, Int.toNat_natCast, Int.reduceToNat, Nat.reduceAdd, Nat.reduceEqDiff, Int.reduceLT, Int.reduceEq, Int.reduceNeg, Int.reduceAdd, Int.reduceMul, Nat.reduceMul, ms_n, ms_i, ms_l, ms_p, PM]
    exact h0 _ _ h rfl rfl (((f.mono rfl).set rfl).set rfl)
  refine At.blk rfl rfl rfl fun sx => ?_
  simp (decide := true) only [RR, ms_app, toList_some, toList_none, if_true, if_false, true_and, and_true, cond_true, sm0, sm1, sm1l, sm2, lc_lt, lc_gt, lc_eq, Int.toNat_natCast, Int.reduceToNat, Nat.reduceAdd, Nat.reduceEqDiff, Int.reduceLT, Int.reduceEq, Int.reduceNeg, Int.reduceAdd, Int.reduceMul, Nat.reduceMul, ms_n, ms_i, ms_l, ms_p, PM, hb]
  refine At.blk rfl rfl rfl fun sx => ?_
  simp (decide := true) only [RR, ms_app, toList_some, toList_none, if_true, if_false, true_and, and_true, cond_true, sm0, sm1, sm1l, sm2, lc_lt, lc_gt, lc_eq, Int.toNat_natCast, Int.reduceToNat, Nat.reduceAdd, Nat.reduceEqDiff, Int.reduceLT, Int.reduceEq, Int.reduceNeg, Int.reduceAdd, Int.reduceMul, Nat.reduceMul, ms_n, ms_i, ms_l, ms_p, PM]
  refine cal_of rfl (m_look hF hT hP (fun σ1 f1 p1 => ?_))
  have hF1 := hF.fr f1 rfl
  have hT1 : TxM σ1 N t := hT.cg (f1 146 3 rfl) (f1.row 147 rfl)
  have hb1 : σ1 146 5 = 0 := (f1 146 5 rfl).trans hb
  obtain ⟨a1, a2, a3⟩ := id p1
  simp (decide := true) only [RR, ms_app, toList_some, toList_none, if_true, if_false, true_and, and_true, cond_true, sm0, sm1, sm1l, sm2, lc_lt, lc_gt, lc_eq, Int.toNat_natCast, Int.reduceToNat, Nat.reduceAdd, Nat.reduceEqDiff, Int.reduceLT, Int.reduceEq, Int.reduceNeg, Int.reduceAdd, Int.reduceMul, Nat.reduceMul, ms_n, ms_i, ms_l, ms_p, PM]
  refine cal_of rfl (m_isLetter (fun hl => ?_) (fun hl => ?_))
  · have hsN : s < N := by
      unfold chr0 at hl
      by_cases c : s < N
      · exact c
      · rw [if_neg c] at hl; omega
    have hl : ltr (t s) := by
      unfold chr0 at hl
      rw [if_pos hsN] at hl; exact hl
    have hg := a3.2 hsN (Or.inl hl)
    simp (decide := true) only [RR, ms_app, toList_some, toList_none, if_true, if_false, true_and, and_true, cond_true, sm0, sm1, sm1l, sm2, lc_lt, lc_gt, lc_eq, Int.toNat_natCast, Int.reduceToNat, Nat.reduceAdd, Nat.reduceEqDiff, Int.reduceLT, Int.reduceEq, Int.reduceNeg, Int.reduceAdd, Int.reduceMul, Nat.reduceMul, ms_n, ms_i, ms_l, ms_p, PM, a1]
    by_cases c : (s : Int) = σ1 146 4
    · rw [if_pos c]
      refine two σ1 f1 p1 ⟨rfl, Or.inl ⟨rfl, Or.inl (fun h => ?_)⟩⟩
      have := hg.mpr c.symm
      rw [h.1] at this; cases this
    · rw [if_neg c]
      have hgf : g = false := by
        cases g with
        | false => rfl
        | true => exact absurd (hg.mp rfl).symm c
      refine cal_of rfl (m_isOwnHere hF1 hT1 hb1 p1.pos (fun σ2 w e hw hi f2 p2 => ?_) (fun σ2 hn f2 p2 => ?_))
      · simp (decide := true) only [RR, ms_app, toList_some, toList_none, if_true, if_false, true_and, and_true, cond_true, sm0, sm1, sm1l, sm2, lc_lt, lc_gt, lc_eq, Int.toNat_natCast, Int.reduceToNat, Nat.reduceAdd, Nat.reduceEqDiff, Int.reduceLT, Int.reduceEq, Int.reduceNeg, Int.reduceAdd, Int.reduceMul, Nat.reduceMul, ms_n, ms_i, ms_l, ms_p, PM]
        exact two σ2 (f1.trans f2) p2 ⟨rfl, Or.inl ⟨rfl, Or.inr ⟨w, e, hw, hi⟩⟩⟩
      · have F2 := f1.trans f2
        have e2 : σ2 146 2 = (s : Int) := p2.1
        have hb2 : σ2 146 5 = 0 := (F2 146 5 rfl).trans hb
        have hl0 := hl
        have fin6 : ∀ (n : Nat), s + n ≤ N → n ≤ 6 → (∀ k, k < n → 97 ≤ t (s + k) ∧ t (s + k) ≤ 122) → (s + n < N → ¬ltr (t (s + n))) → ∀ σ', Fr [] [(146, 2), (146, 34)] σ σ' → σ' 146 2 = ((s + n : Nat) : Int) → σ' 146 34 = (s : Int) → At (d + 3) 166 6 [some (.inr (.inr 146)), some (.inr (.inl (enc27 (nmL t s n) 0))), none] [] σ' K := by
          intro n hn1 h6 hls hst σ' fr q2 q34
          have er : RunP ltr N t s (s + n) := ⟨by omega, hn1, fun k h1 h2 => by have := hls (k - s) (by omega); rw [show s + (k - s) = k by omega] at this; exact this, hst⟩
          obtain ⟨s', hs'⟩ := skp_ex (N := N) (t := t) (N - (s + n)) (s + n) rfl hn1
          have hs1 := hs'.1
          refine At.blk rfl rfl rfl fun sx => ?_
          simp (decide := true) only [RR, ms_app, toList_some, toList_none, if_true, if_false, true_and, and_true, cond_true, sm0, sm1, sm1l, sm2, lc_lt, lc_gt, lc_eq, Int.toNat_natCast, Int.reduceToNat, Nat.reduceAdd, Nat.reduceEqDiff, Int.reduceLT, Int.reduceEq, Int.reduceNeg, Int.reduceAdd, Int.reduceMul, Nat.reduceMul, ms_n, ms_i, ms_l, ms_p, PM, q2]
          have fin := h1 (mj_set σ' 146 4 ((s + n : Nat) : Int)) (s + n) s' ⟨hgf, hsN, hl0, er, fun w hw h => hn w hw _ ⟨hgf, hsN, hl0, er, h⟩, by omega⟩ hs' ⟨⟨s + n, q2, hs'⟩, by show ((s + n : Nat) : Int) ≤ _; omega, fun _ _ => by show decide (s' = s + n) = true ↔ ((s + n : Nat) : Int) = (s' : Int); rw [decide_eq_true_iff]; omega⟩ q34 ((fr 146 5 rfl).trans hb) (fr 146 6 rfl) ((fr.mono rfl).set rfl)
          rw [show s + n - s = n by omega] at fin
          exact fin
        have loop : ∀ (m n : Nat), N - (s + n) = m → s + n ≤ N → n ≤ 6 → (∀ k, k < n → 97 ≤ t (s + k) ∧ t (s + k) ≤ 122) → ∀ σ', Fr [] [(146, 2), (146, 34)] σ σ' → σ' 146 2 = ((s + n : Nat) : Int) → σ' 146 34 = (s : Int) → At (d + 3) 166 4 [some (.inr (.inr 146)), some (.inr (.inl (enc27 (nmL t s n) 0))), none] [] σ' K := by
          intro m
          induction m with
          | zero =>
            intro n hm hn1 h6 hls σ' fr q2 q34
            have six := fin6 n hn1 h6 hls (fun h => absurd h (by omega)) σ' fr q2 q34
            have eN : σ' 146 3 = (N : Int) := (fr 146 3 rfl).trans hT.1
            refine At.blk rfl rfl rfl fun sx => ?_
            simp (decide := true) only [RR, ms_app, toList_some, toList_none, if_true, if_false, true_and, and_true, cond_true, sm0, sm1, sm1l, sm2, lc_lt, lc_gt, lc_eq, Int.toNat_natCast, Int.reduceToNat, Nat.reduceAdd, Nat.reduceEqDiff, Int.reduceLT, Int.reduceEq, Int.reduceNeg, Int.reduceAdd, Int.reduceMul, Nat.reduceMul, ms_n, ms_i, ms_l, ms_p, PM, q2, eN]
            rw [if_neg (by omega)]
            exact six
          | succ m ih =>
            intro n hm hn1 h6 hls σ' fr q2 q34
            have hF' := hF.fr fr rfl
            have hb' : σ' 146 5 = 0 := (fr 146 5 rfl).trans hb
            have eN : σ' 146 3 = (N : Int) := (fr 146 3 rfl).trans hT.1
            have et : σ' 147 (s + n) = t (s + n) := (fr 147 _ rfl).trans (hT.2.2 (s + n) (by omega)).1
            have w1 : Unit → w32 (((s + n : Nat) : Int) - (s : Int)) = (n : Int) := fun _ => by rw [w32_small (by omega) (by omega)]; omega
            have w2 : Unit → w32 (((s + n : Nat) : Int) + 1) = ((s + (n + 1) : Nat) : Int) := fun _ => by rw [w32_small (by omega) (by omega)]; omega
            refine At.blk rfl rfl rfl fun sx => ?_
            simp (decide := true) only [RR, ms_app, toList_some, toList_none, if_true, if_false, true_and, and_true, cond_true, sm0, sm1, sm1l, sm2, lc_lt, lc_gt, lc_eq, Int.toNat_natCast, Int.reduceToNat, Nat.reduceAdd, Nat.reduceEqDiff, Int.reduceLT, Int.reduceEq, Int.reduceNeg, Int.reduceAdd, Int.reduceMul, Nat.reduceMul, ms_n, ms_i, ms_l, ms_p, PM, fxM hF', q2, eN, et]
            rw [if_pos (by omega)]
            refine ⟨⟨by omega, by omega⟩, ?_⟩
            refine cal_of rfl (m_isLetter (fun hl => ?_) (fun hl => ?_))
            · simp (decide := true) only [RR, ms_app, toList_some, toList_none, if_true, if_false, true_and, and_true, cond_true, sm0, sm1, sm1l, sm2, lc_lt, lc_gt, lc_eq, Int.toNat_natCast, Int.reduceToNat, Nat.reduceAdd, Nat.reduceEqDiff, Int.reduceLT, Int.reduceEq, Int.reduceNeg, Int.reduceAdd, Int.reduceMul, Nat.reduceMul, ms_n, ms_i, ms_l, ms_p, PM, q2, q34, w1 ()]
              by_cases c6 : n = 6
              · rw [if_pos (by omega)]
                refine cal_of rfl (m_fail hb' ?_)
                simp (decide := true) only [RR, ms_app, toList_some, toList_none, if_true, if_false, true_and, and_true, cond_true, sm0, sm1, sm1l, sm2, lc_lt, lc_gt, lc_eq, Int.toNat_natCast, Int.reduceToNat, Nat.reduceAdd, Nat.reduceEqDiff, Int.reduceLT, Int.reduceEq, Int.reduceNeg, Int.reduceAdd, Int.reduceMul, Nat.reduceMul, ms_n, ms_i, ms_l, ms_p, PM]
                obtain ⟨e, er⟩ := ltr_run (N := N) (t := t) (N - s) s rfl (by omega)
                have e7 : 6 < e - s := by
                  rcases Nat.lt_or_ge (s + 6) e with h | h
                  · omega
                  · exfalso
                    have hh := er.1
                    refine er.2.2.2 (by omega) ?_
                    by_cases ce : e = s + 6
                    · rw [ce, ← c6]; exact hl
                    · have := hls (e - s) (by omega)
                      rw [show s + (e - s) = e by omega] at this
                      exact this
                refine h0 _ ((s + n : Nat) : Int) ⟨rfl, Or.inr ⟨?_, e, hgf, hsN, hl0, er, fun w hw h => hn w hw e ⟨hgf, hsN, hl0, er, h⟩, e7⟩⟩ rfl rfl (((fr.mono rfl).set rfl).set rfl)
                omega
              · rw [if_neg (by omega)]
                have eb := enc27_nm (t := t) (s := s) n hls
                have eb2 : enc27 (nmL t s n) 0 ≤ 100000000 := by
                  rcases (show n = 0 ∨ n = 1 ∨ n = 2 ∨ n = 3 ∨ n = 4 ∨ n = 5 by omega) with rfl | rfl | rfl | rfl | rfl | rfl <;> omega
                have w3 : Unit → w64 (w64 (w64 (w64 (27 * enc27 (nmL t s n) 0) + t (s + n)) - 97) + 1) = enc27 (nmL t s (n + 1)) 0 := fun _ => by
                  rw [nmL_s, enc27_app]
                  generalize enc27 (nmL t s n) 0 = v at *
                  rw [w64_small (x := 27 * v) (by omega) (by omega), w64_small (x := 27 * v + t (s + n)) (by omega) (by omega), w64_small (x := 27 * v + t (s + n) - 97) (by omega) (by omega), w64_small (by omega) (by omega)]
                  omega
                refine At.blk rfl rfl rfl fun sx => ?_
                simp (decide := true) only [RR, ms_app, toList_some, toList_none, if_true, if_false, true_and, and_true, cond_true, sm0, sm1, sm1l, sm2, lc_lt, lc_gt, lc_eq, Int.toNat_natCast, Int.reduceToNat, Nat.reduceAdd, Nat.reduceEqDiff, Int.reduceLT, Int.reduceEq, Int.reduceNeg, Int.reduceAdd, Int.reduceMul, Nat.reduceMul, ms_n, ms_i, ms_l, ms_p, PM, fxM hF', q2, et, w2 (), w3 ()]
                refine ⟨⟨by omega, by omega⟩, ?_⟩
                refine ih (n + 1) (by omega) (by omega) (by omega) (fun k hk => ?_) _ (fr.set rfl) rfl q34
                by_cases ck : k = n
                · rw [ck]; exact hl
                · exact hls k (by omega)
            · simp (decide := true) only [RR, ms_app, toList_some, toList_none, if_true, if_false, true_and, and_true, cond_true, sm0, sm1, sm1l, sm2, lc_lt, lc_gt, lc_eq, Int.toNat_natCast, Int.reduceToNat, Nat.reduceAdd, Nat.reduceEqDiff, Int.reduceLT, Int.reduceEq, Int.reduceNeg, Int.reduceAdd, Int.reduceMul, Nat.reduceMul, ms_n, ms_i, ms_l, ms_p, PM]
              exact fin6 n hn1 h6 hls (fun _ => hl) σ' fr q2 q34
        simp (decide := true) only [RR, ms_app, toList_some, toList_none, if_true, if_false, true_and, and_true, cond_true, sm0, sm1, sm1l, sm2, lc_lt, lc_gt, lc_eq, Int.toNat_natCast, Int.reduceToNat, Nat.reduceAdd, Nat.reduceEqDiff, Int.reduceLT, Int.reduceEq, Int.reduceNeg, Int.reduceAdd, Int.reduceMul, Nat.reduceMul, ms_n, ms_i, ms_l, ms_p, PM]
        refine At.blk rfl rfl rfl fun sx => ?_
        simp (decide := true) only [RR, ms_app, toList_some, toList_none, if_true, if_false, true_and, and_true, cond_true, sm0, sm1, sm1l, sm2, lc_lt, lc_gt, lc_eq, Int.toNat_natCast, Int.reduceToNat, Nat.reduceAdd, Nat.reduceEqDiff, Int.reduceLT, Int.reduceEq, Int.reduceNeg, Int.reduceAdd, Int.reduceMul, Nat.reduceMul, ms_n, ms_i, ms_l, ms_p, PM, e2]
        exact loop (N - s) 0 (by omega) (by omega) (by omega) (fun k hk => absurd hk (by omega)) _ ((F2.mono rfl).set rfl) e2 rfl
  · simp (decide := true) only [RR, ms_app, toList_some, toList_none, if_true, if_false, true_and, and_true, cond_true, sm0, sm1, sm1l, sm2, lc_lt, lc_gt, lc_eq, Int.toNat_natCast, Int.reduceToNat, Nat.reduceAdd, Nat.reduceEqDiff, Int.reduceLT, Int.reduceEq, Int.reduceNeg, Int.reduceAdd, Int.reduceMul, Nat.reduceMul, ms_n, ms_i, ms_l, ms_p, PM]
    refine two σ1 f1 p1 ⟨rfl, Or.inl ⟨rfl, Or.inl (fun h => ?_)⟩⟩
    unfold chr0 at hl
    rw [if_pos h.2.1] at hl
    exact hl h.2.2
end
