def auN (w : Sk) (s : Int) (q : Nat) : Sk := (w.1, w.2.1, fun j => if j < q ∧ bit s j = 1 then 1 else w.2.2.1 j, w.2.2.2.1, w.2.2.2.2)
section
variable {d : Nat} {σ σ0 : mM} {K : Option mV → mM → Prop} {C : Ct} {w : Sk} {l : Kp}
theorem m_aunts {a n : Int} (hF : Fix σ) (hW : Wrl σ C w l) (h53 : σ 146 53 = 0) (hK : ∀ σ' v, Fr mrL mrT σ σ' → aunR C w a n v → K (some (.inl v)) σ') : Mt (d + 12) 214 [.inr (.inr 146), .inl a, .inl n] σ K := by
  refine Mt.go (lv := [some (.inr (.inr 146)), some (.inl a), some (.inl n), none, none, none, none]) rfl rfl rfl ?_
  obtain ⟨hC, hcx, hcm, hw, hsx, hsm, hkx, hkm, hkv, h9⟩ := hW
  have n7 := hC.1
  have h7 := pwN7 C.1 n7
  have em : σ 182 0 = w.1 := hsm.1
  have no : ¬((0 ≤ a ∧ a < C.1) ∧ (1 ≤ n ∧ n ≤ 30 ∧ w.1 + n ≤ 999)) → At (d + 11) 214 1 [some (.inr (.inr 146)), some (.inl a), some (.inl n), none, none, none, none] [] σ K := by
    intro h
    refine At.blk rfl rfl rfl fun sx => ?_
    simp (decide := true) only [RR, ms_app, toList_some, toList_none, if_true, if_false, true_and, and_true, cond_true, sm0, sm1, sm1l, sm2, lc_lt, lc_gt, lc_eq, Int.toNat_natCast, Int.reduceToNat, Nat.reduceAdd, Nat.reduceEqDiff, Int.reduceLT, Int.reduceEq, Int.reduceNeg, Int.reduceAdd, Int.reduceMul, Nat.reduceMul, ms_n, ms_i, ms_l, ms_p, PM]
    exact hK σ _ Fr.same ⟨fun h2 => absurd h2 h, fun _ => rfl⟩
  refine At.blk rfl rfl rfl fun sx => ?_
  simp (decide := true) only [RR, ms_app, toList_some, toList_none, if_true, if_false, true_and, and_true, cond_true, sm0, sm1, sm1l, sm2, lc_lt, lc_gt, lc_eq, Int.toNat_natCast, Int.reduceToNat, Nat.reduceAdd, Nat.reduceEqDiff, Int.reduceLT, Int.reduceEq, Int.reduceNeg, Int.reduceAdd, Int.reduceMul, Nat.reduceMul, ms_n, ms_i, ms_l, ms_p, PM, fxM hF]
  refine cal_of rfl (m_isPart hF (by rw [hcm.1]; omega) (fun hh => ?_) (fun hh => ?_))
  · rw [hcm.1] at hh
    simp (decide := true) only [RR, ms_app, toList_some, toList_none, if_true, if_false, true_and, and_true, cond_true, sm0, sm1, sm1l, sm2, lc_lt, lc_gt, lc_eq, Int.toNat_natCast, Int.reduceToNat, Nat.reduceAdd, Nat.reduceEqDiff, Int.reduceLT, Int.reduceEq, Int.reduceNeg, Int.reduceAdd, Int.reduceMul, Nat.reduceMul, ms_n, ms_i, ms_l, ms_p, PM]
    refine cal_of rfl (m_isAhead hF (by omega) (by decide) (by decide) (fun h1 => ?_) (fun h1 => ?_))
    · rw [em] at h1
      obtain ⟨p, rfl⟩ := Int.eq_ofNat_of_zero_le hh.1
      obtain ⟨n, rfl⟩ := Int.eq_ofNat_of_zero_le (show 0 ≤ n by omega)
      have hp : p < C.1 := by omega
      obtain ⟨q1, q2⟩ := one_shl p (by omega)
      obtain ⟨r1, -⟩ := one_shl C.1 (by omega)
      have pp : 2 ^ p < 128 := Nat.lt_of_lt_of_le (Nat.pow_lt_pow_right (by decide) hp) h7
      have hKb : ∀ σ' v, Fr mrL mrT σ σ' → Bst (2 ^ C.1) 3 (auQ C w p n) v → K (some (.inl v)) σ' := fun σ' v f hb => hK σ' v f ⟨fun _ => by rw [Int.toNat_natCast, Int.toNat_natCast]; exact hb, fun h => absurd (by omega) h⟩
      simp (decide := true) only [RR, ms_app, toList_some, toList_none, if_true, if_false, true_and, and_true, cond_true, sm0, sm1, sm1l, sm2, lc_lt, lc_gt, lc_eq, Int.toNat_natCast, Int.reduceToNat, Nat.reduceAdd, Nat.reduceEqDiff, Int.reduceLT, Int.reduceEq, Int.reduceNeg, Int.reduceAdd, Int.reduceMul, Nat.reduceMul, ms_n, ms_i, ms_l, ms_p, PM]
      refine At.blk rfl rfl rfl fun sx => ?_
      simp (decide := true) only [RR, ms_app, toList_some, toList_none, if_true, if_false, true_and, and_true, cond_true, sm0, sm1, sm1l, sm2, lc_lt, lc_gt, lc_eq, Int.toNat_natCast, Int.reduceToNat, Nat.reduceAdd, Nat.reduceEqDiff, Int.reduceLT, Int.reduceEq, Int.reduceNeg, Int.reduceAdd, Int.reduceMul, Nat.reduceMul, ms_n, ms_i, ms_l, ms_p, PM, q1]
      have loop1 : ∀ m k : Nat, C.1 - k = m → k ≤ C.1 → ∀ M : Int, (0 ≤ M ∧ M < 128) → (∀ j, j < 7 → (bit M j = 1 ↔ (j < k ∧ w.2.2.1 j = 1) ∨ j = p)) → At (d + 11) 214 3 [some (.inr (.inr 146)), some (.inl (p : Int)), some (.inl (n : Int)), some (.inl M), some (.inl (k : Int)), none, none] [] σ K := by
        intro m
        induction m with
        | zero =>
          intro k hk hk2 M hM hM2
          obtain rfl : k = C.1 := by omega
          have hMb : ∀ j, j < C.1 → (bit M j = 1 ↔ w.2.2.1 j = 1 ∨ j = p) := fun j hj => by
            rw [hM2 j (by omega)]
            constructor
            · rintro (h | h)
              · exact Or.inl h.2
              · exact Or.inr h
            · rintro (h | h)
              · exact Or.inl ⟨hj, h⟩
              · exact Or.inr h
          refine At.blk rfl rfl rfl fun sx => ?_
          simp (decide := true) only [RR, ms_app, toList_some, toList_none, if_true, if_false, true_and, and_true, cond_true, sm0, sm1, sm1l, sm2, lc_lt, lc_gt, lc_eq, Int.toNat_natCast, Int.reduceToNat, Nat.reduceAdd, Nat.reduceEqDiff, Int.reduceLT, Int.reduceEq, Int.reduceNeg, Int.reduceAdd, Int.reduceMul, Nat.reduceMul, ms_n, ms_i, ms_l, ms_p, PM]
          refine cal_of rfl (m_partMany hF ?_)
          simp (decide := true) only [RR, ms_app, toList_some, toList_none, if_true, if_false, true_and, and_true, cond_true, sm0, sm1, sm1l, sm2, lc_lt, lc_gt, lc_eq, Int.toNat_natCast, Int.reduceToNat, Nat.reduceAdd, Nat.reduceEqDiff, Int.reduceLT, Int.reduceEq, Int.reduceNeg, Int.reduceAdd, Int.reduceMul, Nat.reduceMul, ms_n, ms_i, ms_l, ms_p, PM, hcm.1]
          rw [if_neg (by omega)]
          refine At.blk rfl rfl rfl fun sx => ?_
          simp (decide := true) only [RR, ms_app, toList_some, toList_none, if_true, if_false, true_and, and_true, cond_true, sm0, sm1, sm1l, sm2, lc_lt, lc_gt, lc_eq, Int.toNat_natCast, Int.reduceToNat, Nat.reduceAdd, Nat.reduceEqDiff, Int.reduceLT, Int.reduceEq, Int.reduceNeg, Int.reduceAdd, Int.reduceMul, Nat.reduceMul, ms_n, ms_i, ms_l, ms_p, PM]
          refine cal_of rfl (m_putsAside hF (fun σ1 t1 e1 z1 _ => ?_))
          simp (decide := true) only [RR, ms_app, toList_some, toList_none, if_true, if_false, true_and, and_true, cond_true, sm0, sm1, sm1l, sm2, lc_lt, lc_gt, lc_eq, Int.toNat_natCast, Int.reduceToNat, Nat.reduceAdd, Nat.reduceEqDiff, Int.reduceLT, Int.reduceEq, Int.reduceNeg, Int.reduceAdd, Int.reduceMul, Nat.reduceMul, ms_n, ms_i, ms_l, ms_p, PM]
          have loop2 : ∀ m s : Nat, 2 ^ C.1 - s = m → s ≤ 2 ^ C.1 → ∀ (σ' : mM) (v : Int) (o6 : Option mV), Th σ σ' → SkM σ' C w → Bst s 3 (auQ C w p n) v → At (d + 11) 214 6 [some (.inr (.inr 146)), some (.inl (p : Int)), some (.inl (n : Int)), some (.inl M), some (.inl v), some (.inl (s : Int)), o6] [] σ' K := by
            intro m
            induction m with
            | zero =>
              intro s hs hs2 σ' v o6 t sk hb
              obtain rfl : s = 2 ^ C.1 := by omega
              have hF' := hF.fr t.1 rfl
              refine At.blk rfl rfl rfl fun sx => ?_
              simp (decide := true) only [RR, ms_app, toList_some, toList_none, if_true, if_false, true_and, and_true, cond_true, sm0, sm1, sm1l, sm2, lc_lt, lc_gt, lc_eq, Int.toNat_natCast, Int.reduceToNat, Nat.reduceAdd, Nat.reduceEqDiff, Int.reduceLT, Int.reduceEq, Int.reduceNeg, Int.reduceAdd, Int.reduceMul, Nat.reduceMul, ms_n, ms_i, ms_l, ms_p, PM]
              refine cal_of rfl (m_partMany hF' ?_)
              simp (decide := true) only [RR, ms_app, toList_some, toList_none, if_true, if_false, true_and, and_true, cond_true, sm0, sm1, sm1l, sm2, lc_lt, lc_gt, lc_eq, Int.toNat_natCast, Int.reduceToNat, Nat.reduceAdd, Nat.reduceEqDiff, Int.reduceLT, Int.reduceEq, Int.reduceNeg, Int.reduceAdd, Int.reduceMul, Nat.reduceMul, ms_n, ms_i, ms_l, ms_p, PM, (hcm.th t.1).1, r1]
              rw [if_neg (by omega)]
              refine At.blk rfl rfl rfl fun sx => ?_
              simp (decide := true) only [RR, ms_app, toList_some, toList_none, if_true, if_false, true_and, and_true, cond_true, sm0, sm1, sm1l, sm2, lc_lt, lc_gt, lc_eq, Int.toNat_natCast, Int.reduceToNat, Nat.reduceAdd, Nat.reduceEqDiff, Int.reduceLT, Int.reduceEq, Int.reduceNeg, Int.reduceAdd, Int.reduceMul, Nat.reduceMul, ms_n, ms_i, ms_l, ms_p, PM]
              refine cal_of rfl (m_takesBack hF' t h53 (fun σ3 f3 _ => ?_))
              simp (decide := true) only [RR, ms_app, toList_some, toList_none, if_true, if_false, true_and, and_true, cond_true, sm0, sm1, sm1l, sm2, lc_lt, lc_gt, lc_eq, Int.toNat_natCast, Int.reduceToNat, Nat.reduceAdd, Nat.reduceEqDiff, Int.reduceLT, Int.reduceEq, Int.reduceNeg, Int.reduceAdd, Int.reduceMul, Nat.reduceMul, ms_n, ms_i, ms_l, ms_p, PM]
              exact hKb σ3 v f3 hb
            | succ m ih =>
              intro s hs hs2 σ' v o6 t sk hb
              have hs3 : s < 2 ^ C.1 := by omega
              have hF' := hF.fr t.1 rfl
              have w1 : Unit → w32 ((s : Int) + 1) = ((s + 1 : Nat) : Int) := fun _ => by rw [w32_small (by omega) (by omega)]; omega
              have hfre := fre_iff (w := w) (p := p) n7 hs3 hM hMb
              have next : ∀ (σ' : mM) (v : Int) (o6 : Option mV), Th σ σ' → SkM σ' C w → Bst (s + 1) 3 (auQ C w p n) v → At (d + 11) 214 11 [some (.inr (.inr 146)), some (.inl (p : Int)), some (.inl (n : Int)), some (.inl M), some (.inl v), some (.inl (s : Int)), o6] [] σ' K := by
                intro σ' v o6 t sk hb
                refine At.blk rfl rfl rfl fun sx => ?_
                simp (decide := true) only [RR, ms_app, toList_some, toList_none, if_true, if_false, true_and, and_true, cond_true, sm0, sm1, sm1l, sm2, lc_lt, lc_gt, lc_eq, Int.toNat_natCast, Int.reduceToNat, Nat.reduceAdd, Nat.reduceEqDiff, Int.reduceLT, Int.reduceEq, Int.reduceNeg, Int.reduceAdd, Int.reduceMul, Nat.reduceMul, ms_n, ms_i, ms_l, ms_p, PM, w1 ()]
                exact ih (s + 1) (by omega) (by omega) σ' v o6 t sk hb
              have seven : freS C w p (s : Int) → bcF (s : Int) ≤ 3 → (v = -1 ∨ ∃ r : Nat, v = (r : Int) ∧ bcF (s : Int) < bcF (r : Int)) → At (d + 11) 214 7 [some (.inr (.inr 146)), some (.inl (p : Int)), some (.inl (n : Int)), some (.inl M), some (.inl v), some (.inl (s : Int)), o6] [] σ' K := by
                intro g1 g2 g3
                refine At.blk rfl rfl rfl fun sx => ?_
                simp (decide := true) only [RR, ms_app, toList_some, toList_none, if_true, if_false, true_and, and_true, cond_true, sm0, sm1, sm1l, sm2, lc_lt, lc_gt, lc_eq, Int.toNat_natCast, Int.reduceToNat, Nat.reduceAdd, Nat.reduceEqDiff, Int.reduceLT, Int.reduceEq, Int.reduceNeg, Int.reduceAdd, Int.reduceMul, Nat.reduceMul, ms_n, ms_i, ms_l, ms_p, PM]
                have loop3 : ∀ m q : Nat, C.1 - q = m → q ≤ C.1 → ∀ σ', Th σ σ' → SkM σ' C (auN w (s : Int) q) → At (d + 11) 214 8 [some (.inr (.inr 146)), some (.inl (p : Int)), some (.inl (n : Int)), some (.inl M), some (.inl v), some (.inl (s : Int)), some (.inl (q : Int))] [] σ' K := by
                  intro m
                  induction m with
                  | zero =>
                    intro q hq hq2 σ' t sk
                    obtain rfl : q = C.1 := by omega
                    have hF' := hF.fr t.1 rfl
                    refine At.blk rfl rfl rfl fun sx => ?_
                    simp (decide := true) only [RR, ms_app, toList_some, toList_none, if_true, if_false, true_and, and_true, cond_true, sm0, sm1, sm1l, sm2, lc_lt, lc_gt, lc_eq, Int.toNat_natCast, Int.reduceToNat, Nat.reduceAdd, Nat.reduceEqDiff, Int.reduceLT, Int.reduceEq, Int.reduceNeg, Int.reduceAdd, Int.reduceMul, Nat.reduceMul, ms_n, ms_i, ms_l, ms_p, PM]
                    refine cal_of rfl (m_partMany hF' ?_)
                    simp (decide := true) only [RR, ms_app, toList_some, toList_none, if_true, if_false, true_and, and_true, cond_true, sm0, sm1, sm1l, sm2, lc_lt, lc_gt, lc_eq, Int.toNat_natCast, Int.reduceToNat, Nat.reduceAdd, Nat.reduceEqDiff, Int.reduceLT, Int.reduceEq, Int.reduceNeg, Int.reduceAdd, Int.reduceMul, Nat.reduceMul, ms_n, ms_i, ms_l, ms_p, PM, (hcm.th t.1).1]
                    rw [if_neg (by omega)]
                    refine At.blk rfl rfl rfl fun sx => ?_
                    simp (decide := true) only [RR, ms_app, toList_some, toList_none, if_true, if_false, true_and, and_true, cond_true, sm0, sm1, sm1l, sm2, lc_lt, lc_gt, lc_eq, Int.toNat_natCast, Int.reduceToNat, Nat.reduceAdd, Nat.reduceEqDiff, Int.reduceLT, Int.reduceEq, Int.reduceNeg, Int.reduceAdd, Int.reduceMul, Nat.reduceMul, ms_n, ms_i, ms_l, ms_p, PM]
                    have sk2 : SkM σ' C (auW w (s : Int)) := by
                      refine ⟨sk.1, fun j hj => ?_⟩
                      obtain ⟨a1, a2, a3, a4⟩ := sk.2 j hj
                      refine ⟨a1, ?_, a3, a4⟩
                      rw [a2]
                      show (if j < C.1 ∧ bit (s : Int) j = 1 then 1 else w.2.2.1 j) = if bit (s : Int) j = 1 then 1 else w.2.2.1 j
                      by_cases e : bit (s : Int) j = 1
                      · rw [if_pos ⟨hj, e⟩, if_pos e]
                      · rw [if_neg (fun h => e h.2), if_neg e]
                    refine cal_of rfl (m_isCalm hF' hC hp (by omega) hw (by omega) hcm t sk2 hsm (fun σ2 u t2 s2 hu => ?_))
                    rcases hu with ⟨rfl, hu⟩ | ⟨rfl, hu⟩
                    · simp (decide := true) only [RR, ms_app, toList_some, toList_none, if_true, if_false, true_and, and_true, cond_true, sm0, sm1, sm1l, sm2, lc_lt, lc_gt, lc_eq, Int.toNat_natCast, Int.reduceToNat, Nat.reduceAdd, Nat.reduceEqDiff, Int.reduceLT, Int.reduceEq, Int.reduceNeg, Int.reduceAdd, Int.reduceMul, Nat.reduceMul, ms_n, ms_i, ms_l, ms_p, PM]
                      exact next σ2 _ _ t2 s2 (hb.take g2 ⟨g1, hu⟩ g3)
                    · simp (decide := true) only [RR, ms_app, toList_some, toList_none, if_true, if_false, true_and, and_true, cond_true, sm0, sm1, sm1l, sm2, lc_lt, lc_gt, lc_eq, Int.toNat_natCast, Int.reduceToNat, Nat.reduceAdd, Nat.reduceEqDiff, Int.reduceLT, Int.reduceEq, Int.reduceNeg, Int.reduceAdd, Int.reduceMul, Nat.reduceMul, ms_n, ms_i, ms_l, ms_p, PM]
                      exact next σ2 _ _ t2 s2 (hb.skip (fun _ h => absurd h.2 hu))
                  | succ m ih3 =>
                    intro q hq hq2 σ' t sk
                    have hq3 : q < C.1 := by omega
                    have hF' := hF.fr t.1 rfl
                    have w2 : Unit → w32 ((q : Int) + 1) = ((q + 1 : Nat) : Int) := fun _ => by rw [w32_small (by omega) (by omega)]; omega
                    have i1 : Unit → w32 (4 * (q : Int)) = ((4 * q : Nat) : Int) := fun _ => by rw [w32_small (by omega) (by omega)]; omega
                    have i2 : Unit → w32 (2 + ((4 * q : Nat) : Int)) = ((2 + 4 * q : Nat) : Int) := fun _ => by rw [w32_small (by omega) (by omega)]; omega
                    have bi : i_and (i_shr (s : Int) (q : Int)) 1 = bit (s : Int) q := by rw [i_bit (by omega) (by omega) (by omega), Int.toNat_natCast]
                    refine At.blk rfl rfl rfl fun sx => ?_
                    simp (decide := true) only [RR, ms_app, toList_some, toList_none, if_true, if_false, true_and, and_true, cond_true, sm0, sm1, sm1l, sm2, lc_lt, lc_gt, lc_eq, Int.toNat_natCast, Int.reduceToNat, Nat.reduceAdd, Nat.reduceEqDiff, Int.reduceLT, Int.reduceEq, Int.reduceNeg, Int.reduceAdd, Int.reduceMul, Nat.reduceMul, ms_n, ms_i, ms_l, ms_p, PM]
                    refine cal_of rfl (m_partMany hF' ?_)
                    simp (decide := true) only [RR, ms_app, toList_some, toList_none, if_true, if_false, true_and, and_true, cond_true, sm0, sm1, sm1l, sm2, lc_lt, lc_gt, lc_eq, Int.toNat_natCast, Int.reduceToNat, Nat.reduceAdd, Nat.reduceEqDiff, Int.reduceLT, Int.reduceEq, Int.reduceNeg, Int.reduceAdd, Int.reduceMul, Nat.reduceMul, ms_n, ms_i, ms_l, ms_p, PM, (hcm.th t.1).1, bi, fxM hF', i1 (), i2 ()]
                    rw [if_pos (by omega)]
                    by_cases e : bit (s : Int) q = 1
                    · rw [if_pos e]
                      refine ⟨⟨by omega, by omega⟩, ?_⟩
                      refine At.blk rfl rfl rfl fun sx => ?_
                      simp (decide := true) only [RR, ms_app, toList_some, toList_none, if_true, if_false, true_and, and_true, cond_true, sm0, sm1, sm1l, sm2, lc_lt, lc_gt, lc_eq, Int.toNat_natCast, Int.reduceToNat, Nat.reduceAdd, Nat.reduceEqDiff, Int.reduceLT, Int.reduceEq, Int.reduceNeg, Int.reduceAdd, Int.reduceMul, Nat.reduceMul, ms_n, ms_i, ms_l, ms_p, PM, w2 ()]
                      refine ih3 (q + 1) (by omega) (by omega) _ (t.put (by omega)) ⟨?_, fun j hj => ?_⟩
                      · rw [ms_app, if_pos rfl, if_neg (by omega)]; exact sk.1
                      · obtain ⟨a1, a2, a3, a4⟩ := sk.2 j hj
                        refine ⟨by rw [ms_app, if_pos rfl, if_neg (by omega)]; exact a1, ?_, by rw [ms_app, if_pos rfl, if_neg (by omega)]; exact a3, by rw [ms_app, if_pos rfl, if_neg (by omega)]; exact a4⟩
                        show mj_set σ' 182 (2 + 4 * q) 1 182 (2 + 4 * j) = if j < q + 1 ∧ bit (s : Int) j = 1 then 1 else w.2.2.1 j
                        rw [ms_app, if_pos rfl]
                        by_cases e2 : j = q
                        · rw [if_pos (by omega), if_pos ⟨by omega, by rw [e2]; exact e⟩]
                        · rw [if_neg (by omega), a2]
                          show (if j < q ∧ bit (s : Int) j = 1 then 1 else w.2.2.1 j) = _
                          by_cases e3 : j < q ∧ bit (s : Int) j = 1
                          · rw [if_pos e3, if_pos ⟨by omega, e3.2⟩]
                          · rw [if_neg e3, if_neg (fun h => e3 ⟨by omega, h.2⟩)]
                    · rw [if_neg e]
                      refine At.blk rfl rfl rfl fun sx => ?_
                      simp (decide := true) only [RR, ms_app, toList_some, toList_none, if_true, if_false, true_and, and_true, cond_true, sm0, sm1, sm1l, sm2, lc_lt, lc_gt, lc_eq, Int.toNat_natCast, Int.reduceToNat, Nat.reduceAdd, Nat.reduceEqDiff, Int.reduceLT, Int.reduceEq, Int.reduceNeg, Int.reduceAdd, Int.reduceMul, Nat.reduceMul, ms_n, ms_i, ms_l, ms_p, PM, w2 ()]
                      refine ih3 (q + 1) (by omega) (by omega) σ' t ⟨sk.1, fun j hj => ?_⟩
                      obtain ⟨a1, a2, a3, a4⟩ := sk.2 j hj
                      refine ⟨a1, ?_, a3, a4⟩
                      rw [a2]
                      show (if j < q ∧ bit (s : Int) j = 1 then 1 else w.2.2.1 j) = if j < q + 1 ∧ bit (s : Int) j = 1 then 1 else w.2.2.1 j
                      by_cases e3 : j < q ∧ bit (s : Int) j = 1
                      · rw [if_pos e3, if_pos ⟨by omega, e3.2⟩]
                      · rw [if_neg e3, if_neg (fun h => e3 ⟨by
                          have h1 := h.1
                          by_cases e4 : j = q
                          · rw [e4] at h; exact absurd h.2 e
                          · omega, h.2⟩)]
                refine loop3 C.1 0 rfl (by omega) σ' t ⟨sk.1, fun j hj => ?_⟩
                obtain ⟨a1, a2, a3, a4⟩ := sk.2 j hj
                refine ⟨a1, ?_, a3, a4⟩
                show _ = if j < 0 ∧ bit (s : Int) j = 1 then 1 else w.2.2.1 j
                rw [if_neg (by omega)]; exact a2
              refine At.blk rfl rfl rfl fun sx => ?_
              simp (decide := true) only [RR, ms_app, toList_some, toList_none, if_true, if_false, true_and, and_true, cond_true, sm0, sm1, sm1l, sm2, lc_lt, lc_gt, lc_eq, Int.toNat_natCast, Int.reduceToNat, Nat.reduceAdd, Nat.reduceEqDiff, Int.reduceLT, Int.reduceEq, Int.reduceNeg, Int.reduceAdd, Int.reduceMul, Nat.reduceMul, ms_n, ms_i, ms_l, ms_p, PM]
              refine cal_of rfl (m_partMany hF' ?_)
              simp (decide := true) only [RR, ms_app, toList_some, toList_none, if_true, if_false, true_and, and_true, cond_true, sm0, sm1, sm1l, sm2, lc_lt, lc_gt, lc_eq, Int.toNat_natCast, Int.reduceToNat, Nat.reduceAdd, Nat.reduceEqDiff, Int.reduceLT, Int.reduceEq, Int.reduceNeg, Int.reduceAdd, Int.reduceMul, Nat.reduceMul, ms_n, ms_i, ms_l, ms_p, PM, (hcm.th t.1).1, r1]
              rw [if_pos (by omega)]
              by_cases g1 : i_and (s : Int) M = 0
              · rw [if_pos g1]
                refine cal_of rfl (m_bits (by omega) ?_)
                simp (decide := true) only [RR, ms_app, toList_some, toList_none, if_true, if_false, true_and, and_true, cond_true, sm0, sm1, sm1l, sm2, lc_lt, lc_gt, lc_eq, Int.toNat_natCast, Int.reduceToNat, Nat.reduceAdd, Nat.reduceEqDiff, Int.reduceLT, Int.reduceEq, Int.reduceNeg, Int.reduceAdd, Int.reduceMul, Nat.reduceMul, ms_n, ms_i, ms_l, ms_p, PM]
                by_cases g2 : 3 < bcF (s : Int)
                · rw [if_pos g2]
                  exact next σ' v _ t sk (hb.skip (fun h _ => by omega))
                · rw [if_neg g2]
                  by_cases g3 : v = -1
                  · rw [if_pos g3]
                    exact seven (hfre.mp g1) (by omega) (Or.inl g3)
                  · rw [if_neg g3]
                    have hr : ∃ r : Nat, r < s ∧ v = (r : Int) := by
                      rcases hb with ⟨hb, _⟩ | ⟨r, r2, r3, _⟩
                      · exact absurd hb g3
                      · exact ⟨r, r2, r3⟩
                    obtain ⟨r, r2, r3⟩ := hr
                    refine cal_of rfl (m_bits (by omega) ?_)
                    simp (decide := true) only [RR, ms_app, toList_some, toList_none, if_true, if_false, true_and, and_true, cond_true, sm0, sm1, sm1l, sm2, lc_lt, lc_gt, lc_eq, Int.toNat_natCast, Int.reduceToNat, Nat.reduceAdd, Nat.reduceEqDiff, Int.reduceLT, Int.reduceEq, Int.reduceNeg, Int.reduceAdd, Int.reduceMul, Nat.reduceMul, ms_n, ms_i, ms_l, ms_p, PM]
                    rw [r3]
                    refine cal_of rfl (m_bits (by omega) ?_)
                    simp (decide := true) only [RR, ms_app, toList_some, toList_none, if_true, if_false, true_and, and_true, cond_true, sm0, sm1, sm1l, sm2, lc_lt, lc_gt, lc_eq, Int.toNat_natCast, Int.reduceToNat, Nat.reduceAdd, Nat.reduceEqDiff, Int.reduceLT, Int.reduceEq, Int.reduceNeg, Int.reduceAdd, Int.reduceMul, Nat.reduceMul, ms_n, ms_i, ms_l, ms_p, PM]
                    rw [← r3]
                    by_cases g4 : bcF (s : Int) < bcF (r : Int)
                    · rw [if_pos (by rw [r3]; exact g4)]
                      exact seven (hfre.mp g1) (by omega) (Or.inr ⟨r, r3, g4⟩)
                    · rw [if_neg (by rw [r3]; exact g4)]
                      exact next σ' v _ t sk (hb.skip (fun _ _ => ⟨r, r3, by omega⟩))
              · rw [if_neg g1]
                exact next σ' v _ t sk (hb.skip (fun _ h => absurd (hfre.mpr h.1) g1))
          exact loop2 (2 ^ C.1) 0 rfl (Nat.zero_le _) σ1 (-1) none t1 (hsm.eq e1 n7) (Or.inl ⟨rfl, fun s hs => absurd hs (by omega)⟩)
        | succ m ih =>
          intro k hk hk2 M hM hM2
          have hk3 : k < C.1 := by omega
          have w1 : Unit → w32 ((k : Int) + 1) = ((k + 1 : Nat) : Int) := fun _ => by rw [w32_small (by omega) (by omega)]; omega
          obtain ⟨y1, y2⟩ := one_shl k (by omega)
          have kk : 2 ^ k < 128 := Nat.lt_of_lt_of_le (Nat.pow_lt_pow_right (by decide) hk3) h7
          obtain ⟨o1, o2⟩ := or_bits hM (b := ((2 ^ k : Nat) : Int)) ⟨Int.natCast_nonneg _, by omega⟩
          refine At.blk rfl rfl rfl fun sx => ?_
          simp (decide := true) only [RR, ms_app, toList_some, toList_none, if_true, if_false, true_and, and_true, cond_true, sm0, sm1, sm1l, sm2, lc_lt, lc_gt, lc_eq, Int.toNat_natCast, Int.reduceToNat, Nat.reduceAdd, Nat.reduceEqDiff, Int.reduceLT, Int.reduceEq, Int.reduceNeg, Int.reduceAdd, Int.reduceMul, Nat.reduceMul, ms_n, ms_i, ms_l, ms_p, PM]
          refine cal_of rfl (m_partMany hF ?_)
          simp (decide := true) only [RR, ms_app, toList_some, toList_none, if_true, if_false, true_and, and_true, cond_true, sm0, sm1, sm1l, sm2, lc_lt, lc_gt, lc_eq, Int.toNat_natCast, Int.reduceToNat, Nat.reduceAdd, Nat.reduceEqDiff, Int.reduceLT, Int.reduceEq, Int.reduceNeg, Int.reduceAdd, Int.reduceMul, Nat.reduceMul, ms_n, ms_i, ms_l, ms_p, PM, hcm.1]
          rw [if_pos (by omega)]
          refine cal_of rfl (m_hasAunt hF (by omega) (fun e => ?_) (fun e => ?_))
          · rw [Int.toNat_natCast, (hsm.2 k hk3).2.1] at e
            simp (decide := true) only [RR, ms_app, toList_some, toList_none, if_true, if_false, true_and, and_true, cond_true, sm0, sm1, sm1l, sm2, lc_lt, lc_gt, lc_eq, Int.toNat_natCast, Int.reduceToNat, Nat.reduceAdd, Nat.reduceEqDiff, Int.reduceLT, Int.reduceEq, Int.reduceNeg, Int.reduceAdd, Int.reduceMul, Nat.reduceMul, ms_n, ms_i, ms_l, ms_p, PM, y1]
            refine At.blk rfl rfl rfl fun sx => ?_
            simp (decide := true) only [RR, ms_app, toList_some, toList_none, if_true, if_false, true_and, and_true, cond_true, sm0, sm1, sm1l, sm2, lc_lt, lc_gt, lc_eq, Int.toNat_natCast, Int.reduceToNat, Nat.reduceAdd, Nat.reduceEqDiff, Int.reduceLT, Int.reduceEq, Int.reduceNeg, Int.reduceAdd, Int.reduceMul, Nat.reduceMul, ms_n, ms_i, ms_l, ms_p, PM, w1 ()]
            refine ih (k + 1) (by omega) (by omega) _ o1 (fun j hj => ?_)
            rw [o2 j hj, y2 j hj, hM2 j hj]
            constructor
            · rintro ((h | h) | h)
              · exact Or.inl ⟨by omega, h.2⟩
              · exact Or.inr h
              · exact Or.inl ⟨by omega, by rw [h]; exact e⟩
            · rintro (h | h)
              · by_cases e2 : j = k
                · exact Or.inr e2
                · exact Or.inl (Or.inl ⟨by omega, h.2⟩)
              · exact Or.inl (Or.inr h)
          · rw [Int.toNat_natCast, (hsm.2 k hk3).2.1] at e
            simp (decide := true) only [RR, ms_app, toList_some, toList_none, if_true, if_false, true_and, and_true, cond_true, sm0, sm1, sm1l, sm2, lc_lt, lc_gt, lc_eq, Int.toNat_natCast, Int.reduceToNat, Nat.reduceAdd, Nat.reduceEqDiff, Int.reduceLT, Int.reduceEq, Int.reduceNeg, Int.reduceAdd, Int.reduceMul, Nat.reduceMul, ms_n, ms_i, ms_l, ms_p, PM]
            refine At.blk rfl rfl rfl fun sx => ?_
            simp (decide := true) only [RR, ms_app, toList_some, toList_none, if_true, if_false, true_and, and_true, cond_true, sm0, sm1, sm1l, sm2, lc_lt, lc_gt, lc_eq, Int.toNat_natCast, Int.reduceToNat, Nat.reduceAdd, Nat.reduceEqDiff, Int.reduceLT, Int.reduceEq, Int.reduceNeg, Int.reduceAdd, Int.reduceMul, Nat.reduceMul, ms_n, ms_i, ms_l, ms_p, PM, w1 ()]
            refine ih (k + 1) (by omega) (by omega) M hM (fun j hj => ?_)
            rw [hM2 j hj]
            constructor
            · rintro (h | h)
              · exact Or.inl ⟨by omega, h.2⟩
              · exact Or.inr h
            · rintro (h | h)
              · by_cases e2 : j = k
                · rw [e2] at h; exact absurd h.2 e
                · exact Or.inl ⟨by omega, h.2⟩
              · exact Or.inr h
      exact loop1 C.1 0 rfl (by omega) _ ⟨Int.natCast_nonneg _, by omega⟩ (fun j hj => by
        rw [q2 j hj]
        constructor
        · intro h; exact Or.inr h
        · rintro (h | h)
          · omega
          · exact h)
    · rw [em] at h1
      simp (decide := true) only [RR, ms_app, toList_some, toList_none, if_true, if_false, true_and, and_true, cond_true, sm0, sm1, sm1l, sm2, lc_lt, lc_gt, lc_eq, Int.toNat_natCast, Int.reduceToNat, Nat.reduceAdd, Nat.reduceEqDiff, Int.reduceLT, Int.reduceEq, Int.reduceNeg, Int.reduceAdd, Int.reduceMul, Nat.reduceMul, ms_n, ms_i, ms_l, ms_p, PM]
      exact no (by omega)
  · rw [hcm.1] at hh
    simp (decide := true) only [RR, ms_app, toList_some, toList_none, if_true, if_false, true_and, and_true, cond_true, sm0, sm1, sm1l, sm2, lc_lt, lc_gt, lc_eq, Int.toNat_natCast, Int.reduceToNat, Nat.reduceAdd, Nat.reduceEqDiff, Int.reduceLT, Int.reduceEq, Int.reduceNeg, Int.reduceAdd, Int.reduceMul, Nat.reduceMul, ms_n, ms_i, ms_l, ms_p, PM]
    exact no (by omega)
end
theorem p_aunts {σ : mM} (h : Inv σ) (a n : Int) (_ : inR a) (_ : inR n) : PairI Inv 119 214 [.inl a, .inl n] σ := by
  obtain ⟨C, w, l, hW⟩ := h.wrl
  exact ro_pair2 (R := aunR C w a n) h hW aunR_uniq (x_aunts h.1 hW (fun σ' v f hv => ⟨v, rfl, hv, f.mono rfl⟩)) (fun σ1 h1 hW1 _ => m_aunts h1.1 hW1 h1.th0 (fun σ' v f hv => ⟨v, rfl, hv, f.mono rfl⟩))
