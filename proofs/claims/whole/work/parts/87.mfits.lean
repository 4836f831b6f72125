def senP (S : Sn) (u : Sk) (k m : Nat) : Prop := ∀ i, i < m → S.2 (3 * i) = (k : Int) → u.1 ≤ 999 ∧ u.2.1 (S.2 (3 * i + 1)).toNat = S.2 (3 * i + 2)
noncomputable def fitI (C : Ct) (w : Sk) (S : Sn) (p v : Nat) : Int := if fitB C w S p v = true then 1 else 0
theorem fitI_le {C : Ct} {w : Sk} {S : Sn} {p v : Nat} : 0 ≤ fitI C w S p v ∧ fitI C w S p v ≤ 1 := by unfold fitI; split <;> omega
/-- what the model has laid of m numbers -/
def LfM (σ : mM) (C : Ct) (w : Sk) (S : Sn) (p m : Nat) : Prop := (∀ v, v < m → σ 191 v = fitI C w S p v) ∧ (∀ v, v < m → ∀ j, j ≤ 30 → σ 190 (31 * v + j) = (ntM C (airW w p (v : Int)) j).2.1 p) ∧ σ 146 62 = sumN (fitI C w S p) m
theorem LfM.cg {σ σ' : mM} {C : Ct} {w : Sk} {S : Sn} {p m : Nat} (h : LfM σ C w S p m) (e1 : σ' 191 = σ 191) (e2 : σ' 190 = σ 190) (e3 : σ' 146 62 = σ 146 62) : LfM σ' C w S p m := by
  unfold LfM at *; rw [e1, e2, e3]; exact h
theorem fit_all {C : Ct} {w : Sk} {S : Sn} {p v : Nat} (hV : SeV C S) : fitP C w S p v ↔ ∀ j, j < 31 → senP S (ntM C (airW w p (v : Int)) j) j S.1 := by
  constructor
  · intro h j hj i hi he
    obtain ⟨h1, h2⟩ := h i hi
    rw [he] at h1 h2
    rw [Int.toNat_natCast] at h2
    exact ⟨by rw [ntM_night]; exact h1, h2⟩
  · intro h i hi
    have hv := (hV.2 i hi).1
    have e0 : S.2 (3 * i) = (((S.2 (3 * i)).toNat : Nat) : Int) := by omega
    obtain ⟨h1, h2⟩ := h (S.2 (3 * i)).toNat (by omega) i hi e0
    rw [ntM_night] at h1
    have h1 : w.1 + (((S.2 (3 * i)).toNat : Nat) : Int) ≤ 999 := h1
    exact ⟨by omega, h2⟩
section
variable {d : Nat} {σ σ0 : mM} {K : Option mV → mM → Prop} {C : Ct} {w : Sk} {l : Kp} {S : Sn}
theorem SkM.air {p : Nat} {v : Int} (h : SkM σ C w) : SkM (mj_set σ 182 (1 + 4 * p) v) C (airW w p v) := by
  refine ⟨by rw [ms_app, if_pos rfl, if_neg (by omega)]; exact h.1, fun j hj => ?_⟩
  obtain ⟨a1, a2, a3, a4⟩ := h.2 j hj
  refine ⟨?_, by rw [ms_app, if_pos rfl, if_neg (by omega)]; exact a2, by rw [ms_app, if_pos rfl, if_neg (by omega)]; exact a3, by rw [ms_app, if_pos rfl, if_neg (by omega)]; exact a4⟩
  show mj_set σ 182 (1 + 4 * p) v 182 (1 + 4 * j) = (if j = p then v else w.2.1 j)
  rw [ms_app, if_pos rfl]
  by_cases e : j = p
  · rw [if_pos (by omega), if_pos e]
  · rw [if_neg (by omega), if_neg e]; exact a1
theorem m_isAsSeen {u : Sk} {k : Nat} (hk : k ≤ 30) (hF : Fix σ) (hC : CtV C) (hS : SeM σ S) (hV : SeV C S) (hs : SkM σ C u) (h1 : senP S u k S.1 → K (some (.inl 1)) σ) (h0 : ¬senP S u k S.1 → K (some (.inl 0)) σ) : Mt (d + 2) 221 [.inr (.inr 146), .inl (k : Int)] σ K := by
  refine Mt.go (lv := [some (.inr (.inr 146)), some (.inl (k : Int)), none]) rfl rfl rfl ?_
  have v1 := hV.1
  have n7 := hC.1
  have e0 : σ 182 0 = u.1 := hs.1
  refine At.blk rfl rfl rfl fun sx => ?_
  simp (decide := true) only [RR, ms_app, toList_some, toList_none, if_true, if_false, true_and, and_true, cond_true, sm0, sm1, sm1l, sm2, lc_lt, lc_gt, lc_eq, Int.toNat_natCast, Int.reduceToNat, Nat.reduceAdd, Nat.reduceEqDiff, Int.reduceLT, Int.reduceEq, Int.reduceNeg, Int.reduceAdd, Int.reduceMul, Nat.reduceMul, ms_n, ms_i, ms_l, ms_p, PM]
  have loop : ∀ m i : Nat, S.1 - i = m → i ≤ S.1 → senP S u k i → At (d + 1) 221 1 [some (.inr (.inr 146)), some (.inl (k : Int)), some (.inl (i : Int))] [] σ K := by
    intro m
    induction m with
    | zero =>
      intro i hi hi2 ha
      obtain rfl : i = S.1 := by omega
      refine At.blk rfl rfl rfl fun sx => ?_
      simp (decide := true) only [RR, ms_app, toList_some, toList_none, if_true, if_false, true_and, and_true, cond_true, sm0, sm1, sm1l, sm2, lc_lt, lc_gt, lc_eq, Int.toNat_natCast, Int.reduceToNat, Nat.reduceAdd, Nat.reduceEqDiff, Int.reduceLT, Int.reduceEq, Int.reduceNeg, Int.reduceAdd, Int.reduceMul, Nat.reduceMul, ms_n, ms_i, ms_l, ms_p, PM, fxM hF, hS.1]
      rw [if_neg (by omega)]
      refine At.blk rfl rfl rfl fun sx => ?_
      simp (decide := true) only [RR, ms_app, toList_some, toList_none, if_true, if_false, true_and, and_true, cond_true, sm0, sm1, sm1l, sm2, lc_lt, lc_gt, lc_eq, Int.toNat_natCast, Int.reduceToNat, Nat.reduceAdd, Nat.reduceEqDiff, Int.reduceLT, Int.reduceEq, Int.reduceNeg, Int.reduceAdd, Int.reduceMul, Nat.reduceMul, ms_n, ms_i, ms_l, ms_p, PM]
      exact h1 ha
    | succ m ih =>
      intro i hi hi2 ha
      have hv := hV.2 i (by omega)
      have w1 : Unit → w32 ((i : Int) + 1) = ((i + 1 : Nat) : Int) := fun _ => by rw [w32_small (by omega) (by omega)]; omega
      have w3 : Unit → w32 (3 * (i : Int)) = ((3 * i : Nat) : Int) := fun _ => by rw [w32_small (by omega) (by omega)]; omega
      have w4 : Unit → w32 (((3 * i : Nat) : Int) + 1) = ((3 * i + 1 : Nat) : Int) := fun _ => by rw [w32_small (by omega) (by omega)]; omega
      have w5 : Unit → w32 (((3 * i : Nat) : Int) + 2) = ((3 * i + 2 : Nat) : Int) := fun _ => by rw [w32_small (by omega) (by omega)]; omega
      have three : senP S u k (i + 1) → At (d + 1) 221 3 [some (.inr (.inr 146)), some (.inl (k : Int)), some (.inl (i : Int))] [] σ K := by
        intro h
        refine At.blk rfl rfl rfl fun sx => ?_
        simp (decide := true) only [RR, ms_app, toList_some, toList_none, if_true, if_false, true_and, and_true, cond_true, sm0, sm1, sm1l, sm2, lc_lt, lc_gt, lc_eq, Int.toNat_natCast, Int.reduceToNat, Nat.reduceAdd, Nat.reduceEqDiff, Int.reduceLT, Int.reduceEq, Int.reduceNeg, Int.reduceAdd, Int.reduceMul, Nat.reduceMul, ms_n, ms_i, ms_l, ms_p, PM, w1 ()]
        exact ih (i + 1) (by omega) (by omega) h
      have two : ¬senP S u k S.1 → At (d + 1) 221 2 [some (.inr (.inr 146)), some (.inl (k : Int)), some (.inl (i : Int))] [] σ K := by
        intro h
        refine At.blk rfl rfl rfl fun sx => ?_
        simp (decide := true) only [RR, ms_app, toList_some, toList_none, if_true, if_false, true_and, and_true, cond_true, sm0, sm1, sm1l, sm2, lc_lt, lc_gt, lc_eq, Int.toNat_natCast, Int.reduceToNat, Nat.reduceAdd, Nat.reduceEqDiff, Int.reduceLT, Int.reduceEq, Int.reduceNeg, Int.reduceAdd, Int.reduceMul, Nat.reduceMul, ms_n, ms_i, ms_l, ms_p, PM]
        exact h0 h
      have ea : σ 182 (1 + 4 * (S.2 (3 * i + 1)).toNat) = u.2.1 (S.2 (3 * i + 1)).toNat := (hs.2 _ (by omega)).1
      refine At.blk rfl rfl rfl fun sx => ?_
      simp (decide := true) only [RR, ms_app, toList_some, toList_none, if_true, if_false, true_and, and_true, cond_true, sm0, sm1, sm1l, sm2, lc_lt, lc_gt, lc_eq, Int.toNat_natCast, Int.reduceToNat, Nat.reduceAdd, Nat.reduceEqDiff, Int.reduceLT, Int.reduceEq, Int.reduceNeg, Int.reduceAdd, Int.reduceMul, Nat.reduceMul, ms_n, ms_i, ms_l, ms_p, PM, fxM hF, hS.1, w3 (), w4 (), hS.2 (3 * i) (by omega), hS.2 (3 * i + 1) (by omega), e0]
      rw [if_pos (by omega)]
      refine ⟨⟨by omega, by omega⟩, ?_⟩
      by_cases e1 : S.2 (3 * i) = (k : Int)
      · rw [if_pos e1]
        by_cases e9 : 999 < u.1
        · rw [if_pos e9]
          exact two (fun h => by have := (h i (by omega) e1).1; omega)
        · rw [if_neg e9]
          refine ⟨⟨by omega, by omega⟩, ?_⟩
          refine cal_of rfl (m_airOf hF (by omega) ?_)
          simp (decide := true) only [RR, ms_app, toList_some, toList_none, if_true, if_false, true_and, and_true, cond_true, sm0, sm1, sm1l, sm2, lc_lt, lc_gt, lc_eq, Int.toNat_natCast, Int.reduceToNat, Nat.reduceAdd, Nat.reduceEqDiff, Int.reduceLT, Int.reduceEq, Int.reduceNeg, Int.reduceAdd, Int.reduceMul, Nat.reduceMul, ms_n, ms_i, ms_l, ms_p, PM, fxM hF, ea, w3 (), w5 (), hS.2 (3 * i + 2) (by omega)]
          refine ⟨⟨by omega, by omega⟩, ?_⟩
          by_cases e2 : u.2.1 (S.2 (3 * i + 1)).toNat = S.2 (3 * i + 2)
          · rw [if_pos e2]
            refine three (fun j hj => ?_)
            by_cases e : j = i
            · rw [e]; exact fun _ => ⟨by omega, e2⟩
            · exact ha j (by omega)
          · rw [if_neg e2]
            exact two (fun h => e2 (h i (by omega) e1).2)
      · rw [if_neg e1]
        refine three (fun j hj => ?_)
        by_cases e : j = i
        · rw [e]; exact fun h => absurd h e1
        · exact ha j (by omega)
  exact loop S.1 0 rfl (by omega) (fun j hj => absurd hj (by omega))
theorem m_laysFits {p : Nat} (hF : Fix σ) (hC : CtV C) (hp : p < C.1) (hcm : CtM σ C) (hw : SkV C w) (hsm : SkM σ C w) (hS : SeM σ S) (hV : SeV C S) (h53 : σ 146 53 = 0) (h9 : 0 ≤ w.1 ∧ w.1 ≤ 999) (hK : ∀ σ', Fr mrL mrT σ σ' → LfM σ' C w S p 21 → K none σ') : Mt (d + 10) 222 [.inr (.inr 146), .inl (p : Int)] σ K := by
  refine Mt.go (lv := [some (.inr (.inr 146)), some (.inl (p : Int)), none, none, none]) rfl rfl rfl ?_
  have n7 := hC.1
  have i1 : Unit → w32 (4 * (p : Int)) = ((4 * p : Nat) : Int) := fun _ => by rw [w32_small (by omega) (by omega)]; omega
  have i2 : Unit → w32 (1 + ((4 * p : Nat) : Int)) = ((1 + 4 * p : Nat) : Int) := fun _ => by rw [w32_small (by omega) (by omega)]; omega
  refine At.blk rfl rfl rfl fun sx => ?_
  simp (decide := true) only [RR, ms_app, toList_some, toList_none, if_true, if_false, true_and, and_true, cond_true, sm0, sm1, sm1l, sm2, lc_lt, lc_gt, lc_eq, Int.toNat_natCast, Int.reduceToNat, Nat.reduceAdd, Nat.reduceEqDiff, Int.reduceLT, Int.reduceEq, Int.reduceNeg, Int.reduceAdd, Int.reduceMul, Nat.reduceMul, ms_n, ms_i, ms_l, ms_p, PM]
  have f0 : Fr mrL mrT σ (mj_set σ 146 62 0) := Fr.same.set rfl
  have hF0 : Fix (mj_set σ 146 62 0) := hF.set rfl
  have hcm0 : CtM (mj_set σ 146 62 0) C := hcm.cg rfl rfl rfl rfl rfl rfl
  have hsm0 : SkM (mj_set σ 146 62 0) C w := hsm.oth (by decide)
  have hS0 : SeM (mj_set σ 146 62 0) S := hS.cg rfl rfl
  have h530 : mj_set σ 146 62 0 146 53 = 0 := h53
  have z62 : mj_set σ 146 62 0 146 62 = 0 := rfl
  generalize mj_set σ 146 62 0 = σ0 at *
  refine cal_of rfl (m_putsAside hF0 (fun σ1 t1 e1 z1 g1 => ?_))
  simp (decide := true) only [RR, ms_app, toList_some, toList_none, if_true, if_false, true_and, and_true, cond_true, sm0, sm1, sm1l, sm2, lc_lt, lc_gt, lc_eq, Int.toNat_natCast, Int.reduceToNat, Nat.reduceAdd, Nat.reduceEqDiff, Int.reduceLT, Int.reduceEq, Int.reduceNeg, Int.reduceAdd, Int.reduceMul, Nat.reduceMul, ms_n, ms_i, ms_l, ms_p, PM]
  have loop : ∀ m v : Nat, 21 - v = m → v ≤ 21 → ∀ (σ' : mM) (o3 o4 : Option mV), Th σ0 σ' → SkM σ' C w → LfM σ' C w S p v → At (d + 9) 222 1 [some (.inr (.inr 146)), some (.inl (p : Int)), some (.inl (v : Int)), o3, o4] [] σ' K := by
    intro m
    induction m with
    | zero =>
      intro v hv hv2 σ' o3 o4 t sk L
      obtain rfl : v = 21 := by omega
      have hF' := hF0.fr t.1 rfl
      refine At.blk rfl rfl rfl fun sx => ?_
      simp (decide := true) only [RR, ms_app, toList_some, toList_none, if_true, if_false, true_and, and_true, cond_true, sm0, sm1, sm1l, sm2, lc_lt, lc_gt, lc_eq, Int.toNat_natCast, Int.reduceToNat, Nat.reduceAdd, Nat.reduceEqDiff, Int.reduceLT, Int.reduceEq, Int.reduceNeg, Int.reduceAdd, Int.reduceMul, Nat.reduceMul, ms_n, ms_i, ms_l, ms_p, PM]
      refine At.blk rfl rfl rfl fun sx => ?_
      simp (decide := true) only [RR, ms_app, toList_some, toList_none, if_true, if_false, true_and, and_true, cond_true, sm0, sm1, sm1l, sm2, lc_lt, lc_gt, lc_eq, Int.toNat_natCast, Int.reduceToNat, Nat.reduceAdd, Nat.reduceEqDiff, Int.reduceLT, Int.reduceEq, Int.reduceNeg, Int.reduceAdd, Int.reduceMul, Nat.reduceMul, ms_n, ms_i, ms_l, ms_p, PM]
      refine cal_of rfl (m_takesBack hF' t h530 (fun σ3 f3 g3 => ?_))
      simp (decide := true) only [RR, ms_app, toList_some, toList_none, if_true, if_false, true_and, and_true, cond_true, sm0, sm1, sm1l, sm2, lc_lt, lc_gt, lc_eq, Int.toNat_natCast, Int.reduceToNat, Nat.reduceAdd, Nat.reduceEqDiff, Int.reduceLT, Int.reduceEq, Int.reduceNeg, Int.reduceAdd, Int.reduceMul, Nat.reduceMul, ms_n, ms_i, ms_l, ms_p, PM]
      exact hK σ3 (f0.trans f3) (L.cg (g3.row 191 rfl) (g3.row 190 rfl) (g3 146 62 rfl))
    | succ m ih =>
      intro v hv hv2 σ' o3 o4 t sk L
      have hF' := hF0.fr t.1 rfl
      have w1 : Unit → w32 ((v : Int) + 1) = ((v + 1 : Nat) : Int) := fun _ => by rw [w32_small (by omega) (by omega)]; omega
      have w31 : Unit → w32 (31 * (v : Int)) = ((31 * v : Nat) : Int) := fun _ => by rw [w32_small (by omega) (by omega)]; omega
      have hwu : SkV C (airW w p (v : Int)) := airW_V hw (by omega)
      refine At.blk rfl rfl rfl fun sx => ?_
      simp (decide := true) only [RR, ms_app, toList_some, toList_none, if_true, if_false, true_and, and_true, cond_true, sm0, sm1, sm1l, sm2, lc_lt, lc_gt, lc_eq, Int.toNat_natCast, Int.reduceToNat, Nat.reduceAdd, Nat.reduceEqDiff, Int.reduceLT, Int.reduceEq, Int.reduceNeg, Int.reduceAdd, Int.reduceMul, Nat.reduceMul, ms_n, ms_i, ms_l, ms_p, PM, fxM hF', i1 (), i2 ()]
      rw [if_pos (by omega)]
      refine ⟨⟨by omega, by omega⟩, ?_⟩
      have loop2 : ∀ m k : Nat, 31 - k = m → k ≤ 31 → ∀ (σ' : mM) (iz : Int), Th σ0 σ' → SkM σ' C (ntM C (airW w p (v : Int)) k) → LfM σ' C w S p v → (∀ j, j < k → σ' 190 (31 * v + j) = (ntM C (airW w p (v : Int)) j).2.1 p) → (iz = 1 ∧ (∀ j, j < k → senP S (ntM C (airW w p (v : Int)) j) j S.1) ∨ iz = 0 ∧ ¬(∀ j, j < k → senP S (ntM C (airW w p (v : Int)) j) j S.1)) → At (d + 9) 222 2 [some (.inr (.inr 146)), some (.inl (p : Int)), some (.inl (v : Int)), some (.inl iz), some (.inl (k : Int))] [] σ' K := by
        intro m
        induction m with
        | zero =>
          intro k hk hk2 σ' iz t sk L hw hz
          obtain rfl : k = 31 := by omega
          have hF' := hF0.fr t.1 rfl
          refine At.blk rfl rfl rfl fun sx => ?_
          simp (decide := true) only [RR, ms_app, toList_some, toList_none, if_true, if_false, true_and, and_true, cond_true, sm0, sm1, sm1l, sm2, lc_lt, lc_gt, lc_eq, Int.toNat_natCast, Int.reduceToNat, Nat.reduceAdd, Nat.reduceEqDiff, Int.reduceLT, Int.reduceEq, Int.reduceNeg, Int.reduceAdd, Int.reduceMul, Nat.reduceMul, ms_n, ms_i, ms_l, ms_p, PM]
          refine At.blk rfl rfl rfl fun sx => ?_
          simp (decide := true) only [RR, ms_app, toList_some, toList_none, if_true, if_false, true_and, and_true, cond_true, sm0, sm1, sm1l, sm2, lc_lt, lc_gt, lc_eq, Int.toNat_natCast, Int.reduceToNat, Nat.reduceAdd, Nat.reduceEqDiff, Int.reduceLT, Int.reduceEq, Int.reduceNeg, Int.reduceAdd, Int.reduceMul, Nat.reduceMul, ms_n, ms_i, ms_l, ms_p, PM]
          refine cal_of rfl (m_triesAnew hF' t (fun σ4 f4 e4 z4 => ?_))
          have t4 := t.again f4 e4
          have hF4 := hF0.fr t4.1 rfl
          have L4 : LfM σ4 C w S p v := L.cg (f4.row 191 rfl) (f4.row 190 rfl) (f4 146 62 rfl)
          have bs := sumN_le (f := fitI C w S p) (c := 1) v (fun j _ => fitI_le)
          have hiz : iz = fitI C w S p v := by
            unfold fitI
            rcases hz with ⟨rfl, hz⟩ | ⟨rfl, hz⟩
            · rw [if_pos (fitB_t ((fit_all hV).mpr hz))]
            · rw [if_neg (by rw [fitB_f (fun h => hz ((fit_all hV).mp h))]; decide)]
          simp (decide := true) only [RR, ms_app, toList_some, toList_none, if_true, if_false, true_and, and_true, cond_true, sm0, sm1, sm1l, sm2, lc_lt, lc_gt, lc_eq, Int.toNat_natCast, Int.reduceToNat, Nat.reduceAdd, Nat.reduceEqDiff, Int.reduceLT, Int.reduceEq, Int.reduceNeg, Int.reduceAdd, Int.reduceMul, Nat.reduceMul, ms_n, ms_i, ms_l, ms_p, PM, fxM hF4]
          refine ⟨⟨by omega, by omega⟩, by rcases hz with ⟨hz, _⟩ | ⟨hz, _⟩ <;> omega, ?_⟩
          have six : ∀ σ5, Th σ0 σ5 → SkM σ5 C w → LfM σ5 C w S p (v + 1) → At (d + 9) 222 6 [some (.inr (.inr 146)), some (.inl (p : Int)), some (.inl (v : Int)), some (.inl iz), some (.inl (31 : Int))] [] σ5 K := by
            intro σ5 t5 s5 L5
            refine At.blk rfl rfl rfl fun sx => ?_
            simp (decide := true) only [RR, ms_app, toList_some, toList_none, if_true, if_false, true_and, and_true, cond_true, sm0, sm1, sm1l, sm2, lc_lt, lc_gt, lc_eq, Int.toNat_natCast, Int.reduceToNat, Nat.reduceAdd, Nat.reduceEqDiff, Int.reduceLT, Int.reduceEq, Int.reduceNeg, Int.reduceAdd, Int.reduceMul, Nat.reduceMul, ms_n, ms_i, ms_l, ms_p, PM, w1 ()]
            exact ih (v + 1) (by omega) (by omega) σ5 _ _ t5 s5 L5
          have t5 : Th σ0 (mj_set σ4 191 v iz) := ⟨t4.1.setr rfl, fun k hk => t4.2.1 k hk, fun k hk => t4.2.2.1 k hk, t4.2.2.2⟩
          have s5 : SkM (mj_set σ4 191 v iz) C w := (hsm0.eq e4 n7).oth (by decide)
          have a5 : (∀ u, u < v + 1 → mj_set σ4 191 v iz 191 u = fitI C w S p u) := fun u hu => by
            rw [ms_app, if_pos rfl]
            by_cases e : u = v
            · rw [if_pos e, hiz, e]
            · rw [if_neg e]; exact L4.1 u (by omega)
          have b5 : ∀ u, u < v + 1 → ∀ j, j ≤ 30 → mj_set σ4 191 v iz 190 (31 * u + j) = (ntM C (airW w p (u : Int)) j).2.1 p := fun u hu j hj => by
            show σ4 190 (31 * u + j) = _
            by_cases e : u = v
            · rw [e, f4 190 _ rfl]; exact hw j (by omega)
            · exact L4.2.1 u (by omega) j hj
          have e62 := L4.2.2
          by_cases ez : iz = 0
          · rw [if_pos ez]
            refine six _ t5 s5 ⟨a5, b5, ?_⟩
            show σ4 146 62 = _
            rw [e62]
            simp only [sumN]
            omega
          · rw [if_neg ez]
            have ez1 : iz = 1 := by rcases hz with ⟨hz, _⟩ | ⟨hz, _⟩ <;> omega
            refine six _ (t5.c rfl (by decide)) (s5.oth (by decide)) ⟨a5, b5, ?_⟩
            rw [ms_app, if_pos rfl, if_pos rfl, e62, w32_small (by omega) (by omega)]
            simp only [sumN]
            omega
        | succ m ih2 =>
          intro k hk hk2 σ' iz t sk L hw hz
          have hF' := hF0.fr t.1 rfl
          have wn : (ntM C (airW w p (v : Int)) k).1 = w.1 + k := ntM_night (C := C) (w := airW w p (v : Int)) k
          have hwk := ntM_V hwu k (by show w.1 + (k : Int) ≤ 5000; omega)
          have w2 : Unit → w32 ((k : Int) + 1) = ((k + 1 : Nat) : Int) := fun _ => by rw [w32_small (by omega) (by omega)]; omega
          have w3 : Unit → w32 (((31 * v : Nat) : Int) + (k : Int)) = ((31 * v + k : Nat) : Int) := fun _ => by rw [w32_small (by omega) (by omega)]; omega
          have four : ∀ z : Int, (z = 1 ∧ (∀ j, j < k + 1 → senP S (ntM C (airW w p (v : Int)) j) j S.1) ∨ z = 0 ∧ ¬(∀ j, j < k + 1 → senP S (ntM C (airW w p (v : Int)) j) j S.1)) → At (d + 9) 222 4 [some (.inr (.inr 146)), some (.inl (p : Int)), some (.inl (v : Int)), some (.inl iz), some (.inl (k : Int))] [.inl z] σ' K := by
            intro z hz
            refine At.blk rfl rfl rfl fun sx => ?_
            simp (decide := true) only [RR, ms_app, toList_some, toList_none, if_true, if_false, true_and, and_true, cond_true, sm0, sm1, sm1l, sm2, lc_lt, lc_gt, lc_eq, Int.toNat_natCast, Int.reduceToNat, Nat.reduceAdd, Nat.reduceEqDiff, Int.reduceLT, Int.reduceEq, Int.reduceNeg, Int.reduceAdd, Int.reduceMul, Nat.reduceMul, ms_n, ms_i, ms_l, ms_p, PM, fxM hF', w31 (), w3 ()]
            refine cal_of rfl (m_airOf hF' (by omega) ?_)
            have ea : σ' 182 (1 + 4 * p) = (ntM C (airW w p (v : Int)) k).2.1 p := (sk.2 p hp).1
            simp (decide := true) only [RR, ms_app, toList_some, toList_none, if_true, if_false, true_and, and_true, cond_true, sm0, sm1, sm1l, sm2, lc_lt, lc_gt, lc_eq, Int.toNat_natCast, Int.reduceToNat, Nat.reduceAdd, Nat.reduceEqDiff, Int.reduceLT, Int.reduceEq, Int.reduceNeg, Int.reduceAdd, Int.reduceMul, Nat.reduceMul, ms_n, ms_i, ms_l, ms_p, PM, ea]
            refine ⟨⟨by omega, by omega⟩, ?_⟩
            generalize hσ2 : mj_set σ' 190 (31 * v + k) ((ntM C (airW w p (v : Int)) k).2.1 p) = σ2
            have t2 : Th σ0 σ2 := by rw [← hσ2]; exact ⟨t.1.setr rfl, fun k hk => t.2.1 k hk, fun k hk => t.2.2.1 k hk, t.2.2.2⟩
            have s2 : SkM σ2 C (ntM C (airW w p (v : Int)) k) := by rw [← hσ2]; exact sk.oth (by decide)
            have hF2 := hF0.fr t2.1 rfl
            refine cal_of rfl (m_goes1 hF2 hC hwk (by omega) t2 hcm0 s2 (fun σ3 t3 s3 f3 => ?_))
            simp (decide := true) only [RR, ms_app, toList_some, toList_none, if_true, if_false, true_and, and_true, cond_true, sm0, sm1, sm1l, sm2, lc_lt, lc_gt, lc_eq, Int.toNat_natCast, Int.reduceToNat, Nat.reduceAdd, Nat.reduceEqDiff, Int.reduceLT, Int.reduceEq, Int.reduceNeg, Int.reduceAdd, Int.reduceMul, Nat.reduceMul, ms_n, ms_i, ms_l, ms_p, PM, w2 ()]
            refine ih2 (k + 1) (by omega) (by omega) σ3 z t3 s3 ⟨fun u hu => ?_, fun u hu j hj => ?_, ?_⟩ (fun j hj => ?_) hz
            · rw [f3 191 u rfl, ← hσ2]; exact L.1 u hu
            · rw [f3 190 _ rfl, ← hσ2, ms_app, if_pos rfl, if_neg (by omega)]; exact L.2.1 u hu j hj
            · rw [f3 146 62 rfl, ← hσ2]; exact L.2.2
            · rw [f3 190 _ rfl, ← hσ2, ms_app, if_pos rfl]
              by_cases e : j = k
              · rw [if_pos (by omega), e]
              · rw [if_neg (by omega)]; exact hw j (by omega)
          refine At.blk rfl rfl rfl fun sx => ?_
          simp (decide := true) only [RR, ms_app, toList_some, toList_none, if_true, if_false, true_and, and_true, cond_true, sm0, sm1, sm1l, sm2, lc_lt, lc_gt, lc_eq, Int.toNat_natCast, Int.reduceToNat, Nat.reduceAdd, Nat.reduceEqDiff, Int.reduceLT, Int.reduceEq, Int.reduceNeg, Int.reduceAdd, Int.reduceMul, Nat.reduceMul, ms_n, ms_i, ms_l, ms_p, PM]
          rw [if_neg (by omega)]
          rcases hz with ⟨rfl, hz⟩ | ⟨rfl, hz⟩
          · first | rw [if_neg (by decide)] | skip
            refine cal_of rfl (m_isAsSeen (by omega) hF' hC (hS0.cg (t.1 146 58 rfl) (t.1.row 189 rfl)) hV sk (fun h => ?_) (fun h => ?_))
            · simp (decide := true) only [RR, ms_app, toList_some, toList_none, if_true, if_false, true_and, and_true, cond_true, sm0, sm1, sm1l, sm2, lc_lt, lc_gt, lc_eq, Int.toNat_natCast, Int.reduceToNat, Nat.reduceAdd, Nat.reduceEqDiff, Int.reduceLT, Int.reduceEq, Int.reduceNeg, Int.reduceAdd, Int.reduceMul, Nat.reduceMul, ms_n, ms_i, ms_l, ms_p, PM]
              refine four 1 (Or.inl ⟨rfl, fun j hj => ?_⟩)
              by_cases e : j = k
              · rw [e]; exact h
              · exact hz j (by omega)
            · simp (decide := true) only [RR, ms_app, toList_some, toList_none, if_true, if_false, true_and, and_true, cond_true, sm0, sm1, sm1l, sm2, lc_lt, lc_gt, lc_eq, Int.toNat_natCast, Int.reduceToNat, Nat.reduceAdd, Nat.reduceEqDiff, Int.reduceLT, Int.reduceEq, Int.reduceNeg, Int.reduceAdd, Int.reduceMul, Nat.reduceMul, ms_n, ms_i, ms_l, ms_p, PM]
              refine At.blk rfl rfl rfl fun sx => ?_
              simp (decide := true) only [RR, ms_app, toList_some, toList_none, if_true, if_false, true_and, and_true, cond_true, sm0, sm1, sm1l, sm2, lc_lt, lc_gt, lc_eq, Int.toNat_natCast, Int.reduceToNat, Nat.reduceAdd, Nat.reduceEqDiff, Int.reduceLT, Int.reduceEq, Int.reduceNeg, Int.reduceAdd, Int.reduceMul, Nat.reduceMul, ms_n, ms_i, ms_l, ms_p, PM]
              exact four 0 (Or.inr ⟨rfl, fun h2 => h (h2 k (by omega))⟩)
          · first | rw [if_pos rfl] | skip
            refine At.blk rfl rfl rfl fun sx => ?_
            simp (decide := true) only [RR, ms_app, toList_some, toList_none, if_true, if_false, true_and, and_true, cond_true, sm0, sm1, sm1l, sm2, lc_lt, lc_gt, lc_eq, Int.toNat_natCast, Int.reduceToNat, Nat.reduceAdd, Nat.reduceEqDiff, Int.reduceLT, Int.reduceEq, Int.reduceNeg, Int.reduceAdd, Int.reduceMul, Nat.reduceMul, ms_n, ms_i, ms_l, ms_p, PM]
            exact four 0 (Or.inr ⟨rfl, fun h2 => hz (fun j hj => h2 j (by omega))⟩)
      exact loop2 31 0 rfl (by omega) _ 1 (t.put (by omega)) sk.air (L.cg rfl rfl rfl) (fun j hj => absurd hj (by omega)) (Or.inl ⟨rfl, fun j hj => absurd hj (by omega)⟩)
  refine loop 21 0 rfl (by omega) σ1 none none t1 (hsm0.eq e1 n7) ⟨fun v hv => absurd hv (by omega), fun v hv => absurd hv (by omega), ?_⟩
  rw [g1 146 62 rfl, z62]; rfl
theorem m_fits {a : Int} (hF : Fix σ) (hW : Wrl σ C w l) (hS : SeM σ S) (hV : SeV C S) (h53 : σ 146 53 = 0) (hK : ∀ σ' v, Fr mrL mrT σ σ' → fitV C w S a v → K (some (.inl v)) σ') : Mt (d + 11) 223 [.inr (.inr 146), .inl a] σ K := by
  refine Mt.go (lv := [some (.inr (.inr 146)), some (.inl a), none, none]) rfl rfl rfl ?_
  obtain ⟨hC, hcx, hcm, hw, hsx, hsm, hkx, hkm, hkv, h9⟩ := hW
  have n7 := hC.1
  refine At.blk rfl rfl rfl fun sx => ?_
  simp (decide := true) only [RR, ms_app, toList_some, toList_none, if_true, if_false, true_and, and_true, cond_true, sm0, sm1, sm1l, sm2, lc_lt, lc_gt, lc_eq, Int.toNat_natCast, Int.reduceToNat, Nat.reduceAdd, Nat.reduceEqDiff, Int.reduceLT, Int.reduceEq, Int.reduceNeg, Int.reduceAdd, Int.reduceMul, Nat.reduceMul, ms_n, ms_i, ms_l, ms_p, PM, fxM hF]
  refine cal_of rfl (m_isPart hF (by rw [hcm.1]; omega) (fun hh => ?_) (fun hh => ?_))
  · rw [hcm.1] at hh
    obtain ⟨p, rfl⟩ := Int.eq_ofNat_of_zero_le hh.1
    have hp : p < C.1 := by omega
    simp (decide := true) only [RR, ms_app, toList_some, toList_none, if_true, if_false, true_and, and_true, cond_true, sm0, sm1, sm1l, sm2, lc_lt, lc_gt, lc_eq, Int.toNat_natCast, Int.reduceToNat, Nat.reduceAdd, Nat.reduceEqDiff, Int.reduceLT, Int.reduceEq, Int.reduceNeg, Int.reduceAdd, Int.reduceMul, Nat.reduceMul, ms_n, ms_i, ms_l, ms_p, PM]
    refine At.blk rfl rfl rfl fun sx => ?_
    simp (decide := true) only [RR, ms_app, toList_some, toList_none, if_true, if_false, true_and, and_true, cond_true, sm0, sm1, sm1l, sm2, lc_lt, lc_gt, lc_eq, Int.toNat_natCast, Int.reduceToNat, Nat.reduceAdd, Nat.reduceEqDiff, Int.reduceLT, Int.reduceEq, Int.reduceNeg, Int.reduceAdd, Int.reduceMul, Nat.reduceMul, ms_n, ms_i, ms_l, ms_p, PM]
    refine cal_of rfl (m_laysFits hF hC hp hcm hw hsm hS hV h53 h9 (fun σ1 f1 L => ?_))
    have hF1 := hF.fr f1 rfl
    simp (decide := true) only [RR, ms_app, toList_some, toList_none, if_true, if_false, true_and, and_true, cond_true, sm0, sm1, sm1l, sm2, lc_lt, lc_gt, lc_eq, Int.toNat_natCast, Int.reduceToNat, Nat.reduceAdd, Nat.reduceEqDiff, Int.reduceLT, Int.reduceEq, Int.reduceNeg, Int.reduceAdd, Int.reduceMul, Nat.reduceMul, ms_n, ms_i, ms_l, ms_p, PM]
    have loop : ∀ m k : Nat, 21 - k = m → k ≤ 21 → At (d + 10) 223 2 [some (.inr (.inr 146)), some (.inl (p : Int)), some (.inl ((bitsN (fitB C w S p) k : Nat) : Int)), some (.inl (k : Int))] [] σ1 K := by
      intro m
      induction m with
      | zero =>
        intro k hk hk2
        obtain rfl : k = 21 := by omega
        refine At.blk rfl rfl rfl fun sx => ?_
        simp (decide := true) only [RR, ms_app, toList_some, toList_none, if_true, if_false, true_and, and_true, cond_true, sm0, sm1, sm1l, sm2, lc_lt, lc_gt, lc_eq, Int.toNat_natCast, Int.reduceToNat, Nat.reduceAdd, Nat.reduceEqDiff, Int.reduceLT, Int.reduceEq, Int.reduceNeg, Int.reduceAdd, Int.reduceMul, Nat.reduceMul, ms_n, ms_i, ms_l, ms_p, PM]
        refine At.blk rfl rfl rfl fun sx => ?_
        simp (decide := true) only [RR, ms_app, toList_some, toList_none, if_true, if_false, true_and, and_true, cond_true, sm0, sm1, sm1l, sm2, lc_lt, lc_gt, lc_eq, Int.toNat_natCast, Int.reduceToNat, Nat.reduceAdd, Nat.reduceEqDiff, Int.reduceLT, Int.reduceEq, Int.reduceNeg, Int.reduceAdd, Int.reduceMul, Nat.reduceMul, ms_n, ms_i, ms_l, ms_p, PM]
        exact hK σ1 _ f1 ⟨fun _ => by rw [Int.toNat_natCast], fun h => absurd hh h⟩
      | succ m ih =>
        intro k hk hk2
        have w1 : Unit → w32 ((k : Int) + 1) = ((k + 1 : Nat) : Int) := fun _ => by rw [w32_small (by omega) (by omega)]; omega
        have ek := L.1 k (by omega)
        unfold fitI at ek
        refine At.blk rfl rfl rfl fun sx => ?_
        simp (decide := true) only [RR, ms_app, toList_some, toList_none, if_true, if_false, true_and, and_true, cond_true, sm0, sm1, sm1l, sm2, lc_lt, lc_gt, lc_eq, Int.toNat_natCast, Int.reduceToNat, Nat.reduceAdd, Nat.reduceEqDiff, Int.reduceLT, Int.reduceEq, Int.reduceNeg, Int.reduceAdd, Int.reduceMul, Nat.reduceMul, ms_n, ms_i, ms_l, ms_p, PM, fxM hF1, ek]
        rw [if_pos (by omega)]
        refine ⟨⟨by omega, by omega⟩, ?_⟩
        by_cases ht : fitB C w S p k = true
        · rw [if_pos ht, if_neg (by decide)]
          rw [bitsN_or (by omega) ht]
          refine At.blk rfl rfl rfl fun sx => ?_
          simp (decide := true) only [RR, ms_app, toList_some, toList_none, if_true, if_false, true_and, and_true, cond_true, sm0, sm1, sm1l, sm2, lc_lt, lc_gt, lc_eq, Int.toNat_natCast, Int.reduceToNat, Nat.reduceAdd, Nat.reduceEqDiff, Int.reduceLT, Int.reduceEq, Int.reduceNeg, Int.reduceAdd, Int.reduceMul, Nat.reduceMul, ms_n, ms_i, ms_l, ms_p, PM, w1 ()]
          exact ih (k + 1) (by omega) (by omega)
        · rw [if_neg ht, if_pos rfl]
          rw [← bitsN_no (by simpa using ht)]
          refine At.blk rfl rfl rfl fun sx => ?_
          simp (decide := true) only [RR, ms_app, toList_some, toList_none, if_true, if_false, true_and, and_true, cond_true, sm0, sm1, sm1l, sm2, lc_lt, lc_gt, lc_eq, Int.toNat_natCast, Int.reduceToNat, Nat.reduceAdd, Nat.reduceEqDiff, Int.reduceLT, Int.reduceEq, Int.reduceNeg, Int.reduceAdd, Int.reduceMul, Nat.reduceMul, ms_n, ms_i, ms_l, ms_p, PM, w1 ()]
          exact ih (k + 1) (by omega) (by omega)
    exact loop 21 0 rfl (by omega)
  · rw [hcm.1] at hh
    simp (decide := true) only [RR, ms_app, toList_some, toList_none, if_true, if_false, true_and, and_true, cond_true, sm0, sm1, sm1l, sm2, lc_lt, lc_gt, lc_eq, Int.toNat_natCast, Int.reduceToNat, Nat.reduceAdd, Nat.reduceEqDiff, Int.reduceLT, Int.reduceEq, Int.reduceNeg, Int.reduceAdd, Int.reduceMul, Nat.reduceMul, ms_n, ms_i, ms_l, ms_p, PM]
    exact hK σ _ Fr.same ⟨fun h => absurd h hh, fun _ => rfl⟩
end
theorem p_fits {σ : mM} (h : Inv σ) (a : Int) (_ : inR a) : PairI Inv 123 223 [.inl a] σ := by
  obtain ⟨C, w, l, hW⟩ := h.wrl
  obtain ⟨S, hX, hM, hV⟩ := h.seen (C := C) hW.2.1.1
  exact ro_pair2 (R := fitV C w S a) h hW fitV_uniq (x_fits h.1 hW hX hV (fun σ' v f hv => ⟨v, rfl, hv, f.mono rfl⟩)) (fun σ1 h1 hW1 f1 => m_fits h1.1 hW1 (hM.cg (f1 146 58 rfl) (f1.row 189 rfl)) hV h1.th0 (fun σ' v f hv => ⟨v, rfl, hv, f.mono rfl⟩))
