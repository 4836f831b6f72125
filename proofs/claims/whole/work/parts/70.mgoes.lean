/-! KEPT, and the model's NIGHT -/
abbrev Kp : Type := List (Int × Int × Int)
def addK (l : Kp) (x : Int × Int × Int) : Kp := if l.length = 40 then l.drop 1 ++ [x] else l ++ [x]
def kpN (C : Ct) (w : Sk) (l : Kp) : Nat → Kp
  | 0 => l
  | k + 1 => if roseI C w k = 1 then addK (kpN C w l k) (w.1, (k : Int), thnP C w k) else kpN C w l k
def KpM (σ : mM) (l : Kp) : Prop := σ 182 29 = (l.length : Int) ∧ ∀ (k : Nat) (h : k < l.length), σ 182 (30 + 3 * k) = l[k].1 ∧ σ 182 (31 + 3 * k) = l[k].2.1 ∧ σ 182 (32 + 3 * k) = l[k].2.2
def KpX (σ : mM) (l : Kp) : Prop := σ 39 1 = (l.length : Int) ∧ ∀ (k : Nat) (h : k < l.length), σ 40 k = 256 * l[k].1 + 32 * l[k].2.1 + l[k].2.2
def KpV (l : Kp) : Prop := l.length ≤ 40 ∧ ∀ (k : Nat) (h : k < l.length), (0 ≤ l[k].1 ∧ l[k].1 ≤ 999) ∧ (0 ≤ l[k].2.1 ∧ l[k].2.1 ≤ 6) ∧ 0 ≤ l[k].2.2 ∧ l[k].2.2 ≤ 20
theorem addK_len {l : Kp} {x : Int × Int × Int} (h : l.length ≤ 40) : (addK l x).length = if l.length = 40 then 40 else l.length + 1 := by
  unfold addK
  split
  · simp only [List.length_append, List.length_drop, List.length_cons, List.length_nil]; omega
  · simp only [List.length_append, List.length_cons, List.length_nil]
theorem addK_get {l : Kp} {x : Int × Int × Int} (h : l.length ≤ 40) (k : Nat) (hk : k < (addK l x).length) : (addK l x)[k] = if h1 : l.length = 40 then (if h2 : k + 1 < l.length then l[k + 1] else x) else (if h2 : k < l.length then l[k] else x) := by
  have hl := addK_len (x := x) h
  have hk' := hk
  rw [hl] at hk'
  by_cases h1 : l.length = 40
  · rw [dif_pos h1]
    have e : addK l x = l.drop 1 ++ [x] := by unfold addK; rw [if_pos h1]
    rw [if_pos h1] at hk'
    simp only [e]
    by_cases h2 : k + 1 < l.length
    · rw [dif_pos h2, List.getElem_append_left (by simp only [List.length_drop]; omega), List.getElem_drop]
      congr 1; omega
    · rw [dif_neg h2, List.getElem_append_right (by simp only [List.length_drop]; omega)]
      simp
  · rw [dif_neg h1]
    have e : addK l x = l ++ [x] := by unfold addK; rw [if_neg h1]
    rw [if_neg h1] at hk'
    simp only [e]
    by_cases h2 : k < l.length
    · rw [dif_pos h2, List.getElem_append_left h2]
    · rw [dif_neg h2, List.getElem_append_right (by omega)]
      simp
theorem KpV.add {l : Kp} {x : Int × Int × Int} (h : KpV l) (hx : (0 ≤ x.1 ∧ x.1 ≤ 999) ∧ (0 ≤ x.2.1 ∧ x.2.1 ≤ 6) ∧ 0 ≤ x.2.2 ∧ x.2.2 ≤ 20) : KpV (addK l x) := by
  refine ⟨?_, fun k hk => ?_⟩
  · rw [addK_len h.1]
    have := h.1
    split <;> omega
  · rw [addK_get h.1 k hk]
    split
    · split
      · exact h.2 _ _
      · exact hx
    · split
      · exact h.2 _ _
      · exact hx
theorem kpN_V {C : Ct} {w : Sk} {l : Kp} (hC : CtV C) (h9 : 0 ≤ w.1 ∧ w.1 ≤ 999) (h : KpV l) : ∀ k, k ≤ C.1 → KpV (kpN C w l k)
  | 0, _ => h
  | k + 1, hk => by
    have ih := kpN_V hC h9 h k (by omega)
    have n7 := hC.1
    unfold kpN
    split
    · refine ih.add ⟨h9, ⟨by show (0 : Int) ≤ (k : Int); omega, by show (k : Int) ≤ 6; omega⟩, cutA_le⟩
    · exact ih
/-- the model's row behind 29: as it was (a thought), or what is KEPT -/
def KK (th : Int) (σ σ' : mM) (C : Ct) (w : Sk) (l : Kp) (k : Nat) : Prop := (th = 1 ∧ ∀ j, 29 ≤ j → σ' 182 j = σ 182 j) ∨ (th = 0 ∧ KpM σ' (kpN C w l k) ∧ KpV (kpN C w l k) ∧ (0 ≤ w.1 ∧ w.1 ≤ 999))
theorem KK.cg {th : Int} {σ σ' σ2 : mM} {C : Ct} {w : Sk} {l : Kp} {k : Nat} (h : KK th σ σ' C w l k) (e : ∀ j, 29 ≤ j → σ2 182 j = σ' 182 j) : KK th σ σ2 C w l k := by
  rcases h with ⟨h1, h2⟩ | ⟨h1, h2, h3, h4⟩
  · exact Or.inl ⟨h1, fun j hj => (e j hj).trans (h2 j hj)⟩
  · refine Or.inr ⟨h1, ⟨by rw [e _ (by omega)]; exact h2.1, fun k hk => ?_⟩, h3, h4⟩
    rw [e _ (by omega), e _ (by omega), e _ (by omega)]
    exact h2.2 k hk
theorem KK.no {th : Int} {σ σ' : mM} {C : Ct} {w : Sk} {l : Kp} {k : Nat} (h : KK th σ σ' C w l k) (hr : roseI C w k ≠ 1) : KK th σ σ' C w l (k + 1) := by
  have e : kpN C w l (k + 1) = kpN C w l k := by
    conv => lhs; unfold kpN
    rw [if_neg hr]
  unfold KK at *
  rw [e]; exact h
section
variable {d : Nat} {σ : mM} {K : Option mV → mM → Prop}
theorem m_isKept {th : Int} {C : Ct} {w : Sk} {l : Kp} {k : Nat} {σ0 : mM} (hF : Fix σ) (hC : CtV C) (hk : k < C.1) (ht : σ 146 53 = th) (h0 : KK th σ0 σ C w l k) (hr : roseI C w k = 1) (hn : σ 182 0 = w.1) (ha : σ 182 (1 + 4 * k) = thnP C w k) (hK : ∀ σ', Fr [182] [] σ σ' → (∀ j, j < 29 → σ' 182 j = σ 182 j) → KK th σ0 σ' C w l (k + 1) → K none σ') : Mt (d + 2) 194 [.inr (.inr 146), .inl (k : Int)] σ K := by
  refine Mt.go (lv := [some (.inr (.inr 146)), some (.inl (k : Int)), none]) rfl rfl rfl ?_
  have n7 := hC.1
  rcases h0 with ⟨rfl, h2⟩ | ⟨rfl, h2, h3, h4⟩
  · refine At.blk rfl rfl rfl fun sx => ?_
    simp (decide := true) only [RR, ms_app, toList_some, toList_none, if_true, if_false, true_and, and_true, cond_true, sm0, sm1, sm1l, sm2, lc_lt, lc_gt, lc_eq, Int.toNat_natCast, Int.reduceToNat, Nat.reduceAdd, Nat.reduceEqDiff, Int.reduceLT, Int.reduceEq, Int.reduceNeg, Int.reduceAdd, Int.reduceMul, Nat.reduceMul, ms_n, ms_i, ms_l, ms_p, PM, fxM hF, ht]
    exact hK σ Fr.same (fun _ _ => rfl) (Or.inl ⟨rfl, h2⟩)
  · refine At.blk rfl rfl rfl fun sx => ?_
    simp (decide := true) only [RR, ms_app, toList_some, toList_none, if_true, if_false, true_and, and_true, cond_true, sm0, sm1, sm1l, sm2, lc_lt, lc_gt, lc_eq, Int.toNat_natCast, Int.reduceToNat, Nat.reduceAdd, Nat.reduceEqDiff, Int.reduceLT, Int.reduceEq, Int.reduceNeg, Int.reduceAdd, Int.reduceMul, Nat.reduceMul, ms_n, ms_i, ms_l, ms_p, PM, fxM hF, ht]
    generalize hl : kpN C w l k = L at *
    have eN : kpN C w l (k + 1) = addK L (w.1, (k : Int), thnP C w k) := by
      conv => lhs; unfold kpN
      rw [if_pos hr, hl]
    have l40 := h3.1
    have hV : KpV (addK L (w.1, (k : Int), thnP C w k)) := h3.add ⟨h4, ⟨by show (0 : Int) ≤ (k : Int); omega, by show (k : Int) ≤ 6; omega⟩, cutA_le⟩
    have five : ∀ σ1 : mM, ∀ o : Option mV, Fr [182] [] σ σ1 → (∀ j, j < 29 → σ1 182 j = σ 182 j) → ∀ n : Nat, σ1 182 29 = ((n + 1 : Nat) : Int) → n < 40 → n + 1 = (addK L (w.1, (k : Int), thnP C w k)).length → (∀ (j : Nat) (h : j < (addK L (w.1, (k : Int), thnP C w k)).length), j < n → σ1 182 (30 + 3 * j) = (addK L (w.1, (k : Int), thnP C w k))[j].1 ∧ σ1 182 (31 + 3 * j) = (addK L (w.1, (k : Int), thnP C w k))[j].2.1 ∧ σ1 182 (32 + 3 * j) = (addK L (w.1, (k : Int), thnP C w k))[j].2.2) → (∀ h : n < (addK L (w.1, (k : Int), thnP C w k)).length, (addK L (w.1, (k : Int), thnP C w k))[n] = (w.1, (k : Int), thnP C w k)) → At (d + 1) 194 5 [some (.inr (.inr 146)), some (.inl (k : Int)), o] [] σ1 K := by
      intro σ1 o f1 g1 n e29 hn40 hlen hrow hlast
      have hF1 := hF.fr f1 rfl
      have i1 : Unit → w32 (w32 (30 + w32 (3 * ((n + 1 : Nat) : Int))) - 3) = ((30 + 3 * n : Nat) : Int) := fun _ => by
        rw [w32_small (x := 3 * ((n + 1 : Nat) : Int)) (by omega) (by omega), w32_small (x := 30 + 3 * ((n + 1 : Nat) : Int)) (by omega) (by omega), w32_small (by omega) (by omega)]; omega
      have i2 : Unit → w32 (((30 + 3 * n : Nat) : Int) + 1) = ((31 + 3 * n : Nat) : Int) := fun _ => by rw [w32_small (by omega) (by omega)]; omega
      have i3 : Unit → w32 (((30 + 3 * n : Nat) : Int) + 2) = ((32 + 3 * n : Nat) : Int) := fun _ => by rw [w32_small (by omega) (by omega)]; omega
      refine At.blk rfl rfl rfl fun sx => ?_
      simp (decide := true) only [RR, ms_app, toList_some, toList_none, if_true, if_false, true_and, and_true, cond_true, sm0, sm1, sm1l, sm2, lc_lt, lc_gt, lc_eq, Int.toNat_natCast, Int.reduceToNat, Nat.reduceAdd, Nat.reduceEqDiff, Int.reduceLT, Int.reduceEq, Int.reduceNeg, Int.reduceAdd, Int.reduceMul, Nat.reduceMul, ms_n, ms_i, ms_l, ms_p, PM, fxM hF1, e29, i1 (), i2 (), i3 (), (g1 0 (by decide)).trans hn]
      refine ⟨⟨by omega, by omega⟩, ⟨by omega, by omega⟩, ?_⟩
      have hF2 : Fix (mj_set (mj_set σ1 182 (30 + 3 * n) w.1) 182 (31 + 3 * n) (k : Int)) := (hF1.set rfl).set rfl
      refine cal_of rfl (m_airOf hF2 (by omega) ?_)
      rw [Int.toNat_natCast, ms_app, if_pos rfl, if_neg (by omega), ms_app, if_pos rfl, if_neg (by omega), g1 _ (by omega), ha]
      simp (decide := true) only [RR, ms_app, toList_some, toList_none, if_true, if_false, true_and, and_true, cond_true, sm0, sm1, sm1l, sm2, lc_lt, lc_gt, lc_eq, Int.toNat_natCast, Int.reduceToNat, Nat.reduceAdd, Nat.reduceEqDiff, Int.reduceLT, Int.reduceEq, Int.reduceNeg, Int.reduceAdd, Int.reduceMul, Nat.reduceMul, ms_n, ms_i, ms_l, ms_p, PM]
      refine ⟨⟨by omega, by omega⟩, ?_⟩
      generalize hσ3 : mj_set (mj_set (mj_set σ1 182 (30 + 3 * n) w.1) 182 (31 + 3 * n) (k : Int)) 182 (32 + 3 * n) (thnP C w k) = σ3
      have r3 : ∀ j, j ≠ 30 + 3 * n → j ≠ 31 + 3 * n → j ≠ 32 + 3 * n → σ3 182 j = σ1 182 j := by
        intro j h5 h6 h7
        rw [← hσ3, ms_app, if_pos rfl, if_neg h7, ms_app, if_pos rfl, if_neg h6, ms_app, if_pos rfl, if_neg h5]
      refine hK σ3 (by rw [← hσ3]; exact ((f1.setr rfl).setr rfl).setr rfl) (fun j hj => by rw [r3 j (by omega) (by omega) (by omega), g1 j hj]) (Or.inr ⟨rfl, ?_, by rw [eN]; exact hV, h4⟩)
      rw [eN]
      refine ⟨by rw [r3 29 (by omega) (by omega) (by omega), e29, hlen], fun j hj => ?_⟩
      by_cases e : j < n
      · rw [r3 _ (by omega) (by omega) (by omega), r3 _ (by omega) (by omega) (by omega), r3 _ (by omega) (by omega) (by omega)]
        exact hrow j hj e
      · have e : j = n := by omega
        subst e
        rw [hlast hj]
        refine ⟨?_, ?_, ?_⟩
        · rw [← hσ3, ms_app, if_pos rfl, if_neg (by omega), ms_app, if_pos rfl, if_neg (by omega), ms_app, if_pos rfl, if_pos rfl]
        · rw [← hσ3, ms_app, if_pos rfl, if_neg (by omega), ms_app, if_pos rfl, if_pos rfl]
        · rw [← hσ3, ms_app, if_pos rfl, if_pos rfl]
    have hlen := addK_len (x := (w.1, (k : Int), thnP C w k)) l40
    refine At.blk rfl rfl rfl fun sx => ?_
    simp (decide := true) only [RR, ms_app, toList_some, toList_none, if_true, if_false, true_and, and_true, cond_true, sm0, sm1, sm1l, sm2, lc_lt, lc_gt, lc_eq, Int.toNat_natCast, Int.reduceToNat, Nat.reduceAdd, Nat.reduceEqDiff, Int.reduceLT, Int.reduceEq, Int.reduceNeg, Int.reduceAdd, Int.reduceMul, Nat.reduceMul, ms_n, ms_i, ms_l, ms_p, PM, fxM hF, h2.1]
    by_cases h40 : L.length = 40
    · rw [if_pos (by omega)]
      rw [if_pos h40] at hlen
      have loop : ∀ m i : Nat, 117 - i = m → i ≤ 117 → ∀ σ1 : mM, Fr [182] [] σ σ1 → (∀ j, j < 30 → σ1 182 j = σ 182 j) → (∀ j, 30 ≤ j → j < 30 + i → σ1 182 j = σ 182 (j + 3)) → (∀ j, 30 + i ≤ j → σ1 182 j = σ 182 j) → At (d + 1) 194 2 [some (.inr (.inr 146)), some (.inl (k : Int)), some (.inl ((30 + i : Nat) : Int))] [] σ1 K := by
        intro m
        induction m with
        | zero =>
          intro i hi hi2 σ1 f1 g0 g1 g2
          obtain rfl : i = 117 := by omega
          refine At.blk rfl rfl rfl fun sx => ?_
          simp (decide := true) only [RR, ms_app, toList_some, toList_none, if_true, if_false, true_and, and_true, cond_true, sm0, sm1, sm1l, sm2, lc_lt, lc_gt, lc_eq, Int.toNat_natCast, Int.reduceToNat, Nat.reduceAdd, Nat.reduceEqDiff, Int.reduceLT, Int.reduceEq, Int.reduceNeg, Int.reduceAdd, Int.reduceMul, Nat.reduceMul, ms_n, ms_i, ms_l, ms_p, PM]
          refine At.blk rfl rfl rfl fun sx => ?_
          simp (decide := true) only [RR, ms_app, toList_some, toList_none, if_true, if_false, true_and, and_true, cond_true, sm0, sm1, sm1l, sm2, lc_lt, lc_gt, lc_eq, Int.toNat_natCast, Int.reduceToNat, Nat.reduceAdd, Nat.reduceEqDiff, Int.reduceLT, Int.reduceEq, Int.reduceNeg, Int.reduceAdd, Int.reduceMul, Nat.reduceMul, ms_n, ms_i, ms_l, ms_p, PM]
          refine five σ1 _ f1 (fun j hj => g0 j (by omega)) 39 ?_ (by omega) hlen.symm (fun j hj hj2 => ?_) (fun hn2 => ?_)
          · rw [g0 29 (by decide), h2.1, h40]
          · rw [addK_get l40 j hj, dif_pos h40, dif_pos (by omega), g1 _ (by omega) (by omega), g1 _ (by omega) (by omega), g1 _ (by omega) (by omega)]
            have := h2.2 (j + 1) (by omega)
            rw [show 30 + 3 * j + 3 = 30 + 3 * (j + 1) by omega, show 31 + 3 * j + 3 = 31 + 3 * (j + 1) by omega, show 32 + 3 * j + 3 = 32 + 3 * (j + 1) by omega]
            exact this
          · rw [addK_get l40 39 hn2, dif_pos h40, dif_neg (by omega)]
        | succ m ih =>
          intro i hi hi2 σ1 f1 g0 g1 g2
          have hF1 := hF.fr f1 rfl
          have i1 : Unit → w32 (((30 + i : Nat) : Int) + 3) = ((30 + i + 3 : Nat) : Int) := fun _ => by rw [w32_small (by omega) (by omega)]; omega
          have i2 : Unit → w32 (((30 + i : Nat) : Int) + 1) = ((30 + (i + 1) : Nat) : Int) := fun _ => by rw [w32_small (by omega) (by omega)]; omega
          refine At.blk rfl rfl rfl fun sx => ?_
          simp (decide := true) only [RR, ms_app, toList_some, toList_none, if_true, if_false, true_and, and_true, cond_true, sm0, sm1, sm1l, sm2, lc_lt, lc_gt, lc_eq, Int.toNat_natCast, Int.reduceToNat, Nat.reduceAdd, Nat.reduceEqDiff, Int.reduceLT, Int.reduceEq, Int.reduceNeg, Int.reduceAdd, Int.reduceMul, Nat.reduceMul, ms_n, ms_i, ms_l, ms_p, PM, fxM hF1, i1 (), i2 ()]
          rw [if_pos (by omega)]
          refine ⟨⟨by omega, by omega⟩, ⟨by omega, by omega⟩, ?_⟩
          refine ih (i + 1) (by omega) (by omega) _ (f1.setr rfl) (fun j hj => ?_) (fun j hj hj2 => ?_) (fun j hj => ?_)
          · rw [ms_app, if_pos rfl, if_neg (by omega)]; exact g0 j hj
          · rw [ms_app, if_pos rfl]
            by_cases e : j = 30 + i
            · rw [if_pos e, g2 _ (by omega), e]
            · rw [if_neg e]; exact g1 j hj (by omega)
          · rw [ms_app, if_pos rfl, if_neg (by omega)]; exact g2 j (by omega)
      exact loop 117 0 rfl (by omega) σ Fr.same (fun _ _ => rfl) (fun j h5 h6 => by omega) (fun _ _ => rfl)
    · rw [if_neg (by omega)]
      rw [if_neg h40] at hlen
      refine At.blk rfl rfl rfl fun sx => ?_
      simp (decide := true) only [RR, ms_app, toList_some, toList_none, if_true, if_false, true_and, and_true, cond_true, sm0, sm1, sm1l, sm2, lc_lt, lc_gt, lc_eq, Int.toNat_natCast, Int.reduceToNat, Nat.reduceAdd, Nat.reduceEqDiff, Int.reduceLT, Int.reduceEq, Int.reduceNeg, Int.reduceAdd, Int.reduceMul, Nat.reduceMul, ms_n, ms_i, ms_l, ms_p, PM, fxM hF, h2.1]
      rw [w32_small (by omega) (by omega)]
      refine five _ _ (Fr.same.setr rfl) (fun j hj => by rw [ms_app, if_pos rfl, if_neg (by omega)]) L.length (by rw [ms_app, if_pos rfl, if_pos rfl]; omega) (by omega) (by omega) (fun j hj hj2 => ?_) (fun hn2 => ?_)
      · rw [addK_get l40 j hj, dif_neg h40, dif_pos hj2, ms_app, if_pos rfl, if_neg (by omega), ms_app, if_pos rfl, if_neg (by omega), ms_app, if_pos rfl, if_neg (by omega)]
        exact h2.2 j hj2
      · rw [addK_get l40 _ hn2, dif_neg h40, dif_neg (by omega)]
end
