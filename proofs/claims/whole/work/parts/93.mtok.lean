/-! the model takes tokens -/
theorem skp_ex {N : Nat} {t : Nat → Int} : ∀ m i : Nat, N - i = m → i ≤ N → ∃ s, Skp N t i s
  | 0, i, h, h2 => ⟨i, Nat.le_refl _, h2, fun k a b => absurd b (by omega), fun h => absurd h (by omega)⟩
  | m + 1, i, h, h2 => by
    by_cases c : t i = 10 ∨ t i = 32
    · obtain ⟨s, a1, a2, a3, a4⟩ := skp_ex (N := N) (t := t) m (i + 1) (by omega) (by omega)
      refine ⟨s, by omega, a2, fun k h1 h3 => ?_, a4⟩
      by_cases e : k = i
      · rw [e]; exact c
      · exact a3 k (by omega) h3
    · exact ⟨i, Nat.le_refl _, h2, fun k a b => absurd b (by omega), fun _ => c⟩
def TxM (σ : mM) (N : Nat) (t : Nat → Int) : Prop := σ 146 3 = (N : Int) ∧ N ≤ 1600 ∧ ∀ k, k < N → σ 147 k = t k ∧ 0 ≤ t k ∧ t k ≤ 255
def EnM (σ : mM) (N : Nat) (t : Nat → Int) (s : Nat) (g : Bool) : Prop := σ 146 4 ≤ (s : Int) ∧ (s < N → ltr (t s) ∨ dgt (t s) → (g = true ↔ σ 146 4 = (s : Int)))
def PosM (σ : mM) (N : Nat) (t : Nat → Int) (s : Nat) (g : Bool) : Prop := (∃ i : Nat, σ 146 2 = (i : Int) ∧ Skp N t i s) ∧ EnM σ N t s g
def PosA (σ : mM) (N : Nat) (t : Nat → Int) (s : Nat) (g : Bool) : Prop := σ 146 2 = (s : Int) ∧ Skp N t s s ∧ EnM σ N t s g
def lkT : List (Nat × Nat) := [(146, 2)]
def tmT : List (Nat × Nat) := [(146, 2), (146, 4)]
def msT : List (Nat × Nat) := [(146, 2), (146, 4), (146, 5), (146, 6)]
theorem PosA.pos {σ : mM} {N : Nat} {t : Nat → Int} {s : Nat} {g : Bool} (h : PosA σ N t s g) : PosM σ N t s g := ⟨⟨s, h.1, h.2.1⟩, h.2.2⟩
theorem TxM.cg {σ σ' : mM} {N : Nat} {t : Nat → Int} (h : TxM σ N t) (e : σ' 146 3 = σ 146 3) (e2 : σ' 147 = σ 147) : TxM σ' N t := by
  unfold TxM at *; rw [e, e2]; exact h
theorem TxM.ms {σ σ' : mM} {N : Nat} {t : Nat → Int} (h : TxM σ N t) (f : Fr [] msT σ σ') : TxM σ' N t := h.cg (f 146 3 rfl) (f.row 147 rfl)
theorem PosM.cg {σ σ' : mM} {N : Nat} {t : Nat → Int} {s : Nat} {g : Bool} (h : PosM σ N t s g) (e2 : σ' 146 2 = σ 146 2) (e4 : σ' 146 4 = σ 146 4) : PosM σ' N t s g := by
  unfold PosM EnM at *; rw [e2, e4]; exact h
theorem PosA.cg {σ σ' : mM} {N : Nat} {t : Nat → Int} {s : Nat} {g : Bool} (h : PosA σ N t s g) (e2 : σ' 146 2 = σ 146 2) (e4 : σ' 146 4 = σ 146 4) : PosA σ' N t s g := by
  unfold PosA EnM at *; rw [e2, e4]; exact h
def wrB (q w : Nat) : Bool := mj_is 218 q 22 && (Nat.beq (mj_shp q).2 (wl w) && ((Nat.blt q 218 && Nat.ble 20 (mj_shp q).1) && ((!(Nat.beq q mj_SCR)) && (List.range (wl w)).all (fun k => (Nat.blt q 218 && Nat.blt k (mj_shp q).2 && fixS q k) && decide ((fixR q).getD k 0 = wch w k)))))
theorem wrB.get {q w : Nat} {σ : mM} (h : wrB q w = true) (hF : Fix σ) : mj_is 218 q 22 = true ∧ (mj_shp q).2 = wl w ∧ (Nat.blt q 218 && Nat.ble 20 (mj_shp q).1) = true ∧ Nat.beq q mj_SCR = false ∧ ∀ k, k < wl w → σ q k = wch w k := by
  unfold wrB at h
  obtain ⟨h1, h⟩ := mj_and h
  obtain ⟨h2, h⟩ := mj_and h
  obtain ⟨h3, h⟩ := mj_and h
  obtain ⟨h4, h⟩ := mj_and h
  refine ⟨h1, Nat.eq_of_beq_eq_true h2, h3, ?_, fun k hk => ?_⟩
  · cases e : Nat.beq q mj_SCR
    · rfl
    · rw [e] at h4; cases h4
  · have h5 := List.all_eq_true.mp h k (List.mem_range.mpr hk)
    obtain ⟨h6, h7⟩ := mj_and h5
    rw [hF.get q k h6]
    exact of_decide_eq_true h7
theorem wr_own : ∀ w : Nat, w < 24 → wrB (149 + w) w = true := by decide +kernel
theorem wr_ask : ∀ p ∈ [(194, 17), (195, 24), (196, 25), (197, 26), (198, 10), (199, 11), (200, 20), (201, 19), (202, 18), (203, 21), (204, 22), (205, 23), (206, 1), (207, 12), (208, 13), (209, 14), (210, 15), (211, 3), (212, 4), (213, 2)], wrB p.1 p.2 = true := by decide +kernel
section
variable {sx : mS} {top : Nat} {cal : mC} {J : mJ} {KR : mK} {lv : mL} {st : List mV} {σ : mM} {k : mL → List mV → Nat → mM → Prop}
theorem al_gen {q n a b z : Nat} (h3 : (Nat.blt q 218 && Nat.ble 20 (mj_shp q).1) = true) (h4 : Nat.beq q mj_SCR = false) (h2 : (mj_shp q).2 = n) : mj_op sx top cal J KR (.arraylength, a, b, z) lv (.inr (.inr q) :: st) 218 σ k = k lv (.inl (n : Int) :: st) 218 σ := by
  show (bif Nat.beq q mj_SCR then _ else bif (Nat.blt q 218 && Nat.ble 20 (mj_shp q).1) then k lv (.inl ((mj_shp q).2 : Int) :: st) 218 σ else False) = _
  rw [h4, h3, h2]; rfl
theorem ca_gen {q n a b z : Nat} {j : Int} (h1 : mj_is 218 q 22 = true) (h2 : (mj_shp q).2 = n) : mj_op sx top cal J KR (.caload, a, b, z) lv (.inl j :: .inr (.inr q) :: st) 218 σ k = ((0 ≤ j ∧ j < (n : Int)) ∧ k lv (.inl (σ q j.toNat) :: st) 218 σ) := by
  show (bif mj_is 218 q 22 then (0 ≤ j ∧ j < ((mj_shp q).2 : Int)) ∧ k lv (.inl (σ q j.toNat) :: st) 218 σ else False) = _
  rw [h1, h2]; rfl
end
section
variable {d : Nat} {σ σ0 : mM} {K : Option mV → mM → Prop} {N : Nat} {t : Nat → Int} {s : Nat} {g : Bool}
theorem m_isLetter {c : Int} (h1 : 97 ≤ c ∧ c ≤ 122 → K (some (.inl 1)) σ) (h0 : ¬(97 ≤ c ∧ c ≤ 122) → K (some (.inl 0)) σ) : Mt (d + 1) 156 [.inl c] σ K := by
  refine Mt.go (lv := [some (.inl c)]) rfl rfl rfl ?_
  repeat' (first | (exact h1 (by omega)) | (exact h0 (by omega)) | (refine ⟨⟨by omega, by omega⟩, ?_⟩) | split | (refine At.blk rfl rfl rfl fun sx => ?_; simp (decide := true) only [RR, ms_app, toList_some, toList_none, if_true, if_false, true_and, and_true, cond_true, sm0, sm1, sm1l, sm2, lc_lt, lc_gt, lc_eq, Int.toNat_natCast, Int.reduceToNat, Nat.reduceAdd, Nat.reduceEqDiff, Int.reduceLT, Int.reduceEq, Int.reduceNeg, Int.reduceAdd, Int.reduceMul, Nat.reduceMul, ms_n, ms_i, ms_l, ms_p, PM]))
theorem m_isDigit {c : Int} (h1 : 48 ≤ c ∧ c ≤ 57 → K (some (.inl 1)) σ) (h0 : ¬(48 ≤ c ∧ c ≤ 57) → K (some (.inl 0)) σ) : Mt (d + 1) 157 [.inl c] σ K := by
  refine Mt.go (lv := [some (.inl c)]) rfl rfl rfl ?_
  repeat' (first | (exact h1 (by omega)) | (exact h0 (by omega)) | (refine ⟨⟨by omega, by omega⟩, ?_⟩) | split | (refine At.blk rfl rfl rfl fun sx => ?_; simp (decide := true) only [RR, ms_app, toList_some, toList_none, if_true, if_false, true_and, and_true, cond_true, sm0, sm1, sm1l, sm2, lc_lt, lc_gt, lc_eq, Int.toNat_natCast, Int.reduceToNat, Nat.reduceAdd, Nat.reduceEqDiff, Int.reduceLT, Int.reduceEq, Int.reduceNeg, Int.reduceAdd, Int.reduceMul, Nat.reduceMul, ms_n, ms_i, ms_l, ms_p, PM]))
theorem m_fail {k p : Int} (hb : σ 146 5 = 0) (hK : K none (mj_set (mj_set σ 146 5 k) 146 6 p)) : Mt (d + 1) 155 [.inr (.inr 146), .inl k, .inl p] σ K := by
  refine Mt.go (lv := [some (.inr (.inr 146)), some (.inl k), some (.inl p)]) rfl rfl rfl ?_
  refine At.blk rfl rfl rfl fun sx => ?_
  simp (decide := true) only [RR, ms_app, toList_some, toList_none, if_true, if_false, true_and, and_true, cond_true, sm0, sm1, sm1l, sm2, lc_lt, lc_gt, lc_eq, Int.toNat_natCast, Int.reduceToNat, Nat.reduceAdd, Nat.reduceEqDiff, Int.reduceLT, Int.reduceEq, Int.reduceNeg, Int.reduceAdd, Int.reduceMul, Nat.reduceMul, ms_n, ms_i, ms_l, ms_p, PM, hb]
  refine At.blk rfl rfl rfl fun sx => ?_
  simp (decide := true) only [RR, ms_app, toList_some, toList_none, if_true, if_false, true_and, and_true, cond_true, sm0, sm1, sm1l, sm2, lc_lt, lc_gt, lc_eq, Int.toNat_natCast, Int.reduceToNat, Nat.reduceAdd, Nat.reduceEqDiff, Int.reduceLT, Int.reduceEq, Int.reduceNeg, Int.reduceAdd, Int.reduceMul, Nat.reduceMul, ms_n, ms_i, ms_l, ms_p, PM]
  exact hK
def chr0 (N : Nat) (t : Nat → Int) (s : Nat) : Int := if s < N then t s else -1
theorem m_look (hF : Fix σ) (hT : TxM σ N t) (hP : PosM σ N t s g) (hK : ∀ σ', Fr [] lkT σ σ' → PosA σ' N t s g → K (some (.inl (chr0 N t s))) σ') : Mt (d + 1) 158 [.inr (.inr 146)] σ K := by
  refine Mt.go (lv := [some (.inr (.inr 146))]) rfl rfl rfl ?_
  obtain ⟨⟨i0, e0, k0⟩, hE⟩ := hP
  have n16 := hT.2.1
  have two : ∀ σ', Fr [] lkT σ σ' → σ' 146 2 = (s : Int) → At d 158 2 [some (.inr (.inr 146))] [] σ' K := by
    intro σ' fr q
    have hF' := hF.fr fr rfl
    have eN : σ' 146 3 = (N : Int) := (fr 146 3 rfl).trans hT.1
    have hK := hK σ' fr ⟨q, k0.at, by unfold EnM at *; rw [fr 146 4 rfl]; exact hE⟩
    unfold chr0 at hK
    have sN := k0.2.1
    by_cases c : s < N
    · have et : σ' 147 s = t s := (fr 147 s rfl).trans (hT.2.2 s c).1
      rw [if_pos c] at hK
      refine At.blk rfl rfl rfl fun sx => ?_
      simp (decide := true) only [RR, ms_app, toList_some, toList_none, if_true, if_false, true_and, and_true, cond_true, sm0, sm1, sm1l, sm2, lc_lt, lc_gt, lc_eq, Int.toNat_natCast, Int.reduceToNat, Nat.reduceAdd, Nat.reduceEqDiff, Int.reduceLT, Int.reduceEq, Int.reduceNeg, Int.reduceAdd, Int.reduceMul, Nat.reduceMul, ms_n, ms_i, ms_l, ms_p, PM, fxM hF', q, eN, et]
      rw [if_pos (by omega)]
      refine ⟨⟨by omega, by omega⟩, ?_⟩
      refine At.blk rfl rfl rfl fun sx => ?_
      simp (decide := true) only [RR, ms_app, toList_some, toList_none, if_true, if_false, true_and, and_true, cond_true, sm0, sm1, sm1l, sm2, lc_lt, lc_gt, lc_eq, Int.toNat_natCast, Int.reduceToNat, Nat.reduceAdd, Nat.reduceEqDiff, Int.reduceLT, Int.reduceEq, Int.reduceNeg, Int.reduceAdd, Int.reduceMul, Nat.reduceMul, ms_n, ms_i, ms_l, ms_p, PM]
      exact hK
    · rw [if_neg c] at hK
      refine At.blk rfl rfl rfl fun sx => ?_
      simp (decide := true) only [RR, ms_app, toList_some, toList_none, if_true, if_false, true_and, and_true, cond_true, sm0, sm1, sm1l, sm2, lc_lt, lc_gt, lc_eq, Int.toNat_natCast, Int.reduceToNat, Nat.reduceAdd, Nat.reduceEqDiff, Int.reduceLT, Int.reduceEq, Int.reduceNeg, Int.reduceAdd, Int.reduceMul, Nat.reduceMul, ms_n, ms_i, ms_l, ms_p, PM, q, eN]
      rw [if_neg (by omega)]
      refine At.blk rfl rfl rfl fun sx => ?_
      simp (decide := true) only [RR, ms_app, toList_some, toList_none, if_true, if_false, true_and, and_true, cond_true, sm0, sm1, sm1l, sm2, lc_lt, lc_gt, lc_eq, Int.toNat_natCast, Int.reduceToNat, Nat.reduceAdd, Nat.reduceEqDiff, Int.reduceLT, Int.reduceEq, Int.reduceNeg, Int.reduceAdd, Int.reduceMul, Nat.reduceMul, ms_n, ms_i, ms_l, ms_p, PM]
      refine At.blk rfl rfl rfl fun sx => ?_
      simp (decide := true) only [RR, ms_app, toList_some, toList_none, if_true, if_false, true_and, and_true, cond_true, sm0, sm1, sm1l, sm2, lc_lt, lc_gt, lc_eq, Int.toNat_natCast, Int.reduceToNat, Nat.reduceAdd, Nat.reduceEqDiff, Int.reduceLT, Int.reduceEq, Int.reduceNeg, Int.reduceAdd, Int.reduceMul, Nat.reduceMul, ms_n, ms_i, ms_l, ms_p, PM]
      exact hK
  have loop : ∀ m i : Nat, s - i = m → i ≤ s → (∀ k, i ≤ k → k < s → blk (t k)) → ∀ σ', Fr [] lkT σ σ' → σ' 146 2 = (i : Int) → At d 158 0 [some (.inr (.inr 146))] [] σ' K := by
    intro m
    induction m with
    | zero =>
      intro i hi hi2 hq σ' fr q
      obtain rfl : i = s := by omega
      have hF' := hF.fr fr rfl
      have eN : σ' 146 3 = (N : Int) := (fr 146 3 rfl).trans hT.1
      have sN := k0.2.1
      by_cases c : i < N
      · have et : σ' 147 i = t i := (fr 147 i rfl).trans (hT.2.2 i c).1
        have hnb := k0.2.2.2 c
        unfold blk at hnb
        refine At.blk rfl rfl rfl fun sx => ?_
        simp (decide := true) only [RR, ms_app, toList_some, toList_none, if_true, if_false, true_and, and_true, cond_true, sm0, sm1, sm1l, sm2, lc_lt, lc_gt, lc_eq, Int.toNat_natCast, Int.reduceToNat, Nat.reduceAdd, Nat.reduceEqDiff, Int.reduceLT, Int.reduceEq, Int.reduceNeg, Int.reduceAdd, Int.reduceMul, Nat.reduceMul, ms_n, ms_i, ms_l, ms_p, PM, fxM hF', q, eN, et]
        rw [if_pos (by omega)]
        refine ⟨⟨by omega, by omega⟩, ?_⟩
        rw [if_neg (by omega), if_neg (by omega)]
        exact ⟨⟨by omega, by omega⟩, two σ' fr q⟩
      · refine At.blk rfl rfl rfl fun sx => ?_
        simp (decide := true) only [RR, ms_app, toList_some, toList_none, if_true, if_false, true_and, and_true, cond_true, sm0, sm1, sm1l, sm2, lc_lt, lc_gt, lc_eq, Int.toNat_natCast, Int.reduceToNat, Nat.reduceAdd, Nat.reduceEqDiff, Int.reduceLT, Int.reduceEq, Int.reduceNeg, Int.reduceAdd, Int.reduceMul, Nat.reduceMul, ms_n, ms_i, ms_l, ms_p, PM, q, eN]
        rw [if_neg (by omega)]
        exact two σ' fr q
    | succ m ih =>
      intro i hi hi2 hq σ' fr q
      have hF' := hF.fr fr rfl
      have eN : σ' 146 3 = (N : Int) := (fr 146 3 rfl).trans hT.1
      have sN := k0.2.1
      have et : σ' 147 i = t i := (fr 147 i rfl).trans (hT.2.2 i (by omega)).1
      have hb := hq i (Nat.le_refl _) (by omega)
      unfold blk at hb
      have w1 : Unit → w32 ((i : Int) + 1) = ((i + 1 : Nat) : Int) := fun _ => by rw [w32_small (by omega) (by omega)]; omega
      have one : At d 158 1 [some (.inr (.inr 146))] [] σ' K := by
        refine At.blk rfl rfl rfl fun sx => ?_
        simp (decide := true) only [RR, ms_app, toList_some, toList_none, if_true, if_false, true_and, and_true, cond_true, sm0, sm1, sm1l, sm2, lc_lt, lc_gt, lc_eq, Int.toNat_natCast, Int.reduceToNat, Nat.reduceAdd, Nat.reduceEqDiff, Int.reduceLT, Int.reduceEq, Int.reduceNeg, Int.reduceAdd, Int.reduceMul, Nat.reduceMul, ms_n, ms_i, ms_l, ms_p, PM, q, w1 ()]
        exact ih (i + 1) (by omega) (by omega) (fun k h1 h2 => hq k (by omega) h2) _ (fr.set rfl) rfl
      refine At.blk rfl rfl rfl fun sx => ?_
      simp (decide := true) only [RR, ms_app, toList_some, toList_none, if_true, if_false, true_and, and_true, cond_true, sm0, sm1, sm1l, sm2, lc_lt, lc_gt, lc_eq, Int.toNat_natCast, Int.reduceToNat, Nat.reduceAdd, Nat.reduceEqDiff, Int.reduceLT, Int.reduceEq, Int.reduceNeg, Int.reduceAdd, Int.reduceMul, Nat.reduceMul, ms_n, ms_i, ms_l, ms_p, PM, fxM hF', q, eN, et]
      rw [if_pos (by omega)]
      refine ⟨⟨by omega, by omega⟩, ?_⟩
      by_cases c : t i = 10
      · rw [if_pos c]; exact one
      · rw [if_neg c, if_pos (by omega)]
        exact ⟨⟨by omega, by omega⟩, one⟩
  exact loop (s - i0) i0 rfl k0.1 k0.2.2.1 σ Fr.same e0
theorem m_isHere {q w : Nat} (hq : wrB q w = true) (hF : Fix σ) (hT : TxM σ N t) (hb : σ 146 5 = 0) (hP : PosM σ N t s g) (h1 : ∀ σ' e, Fr [] lkT σ σ' → PosA σ' N t s g → IsWd N t s g e w → K (some (.inl 1)) σ') (h0 : ∀ σ', Fr [] lkT σ σ' → PosA σ' N t s g → (∀ e, ¬IsWd N t s g e w) → K (some (.inl 0)) σ') : Mt (d + 2) 159 [.inr (.inr 146), .inr (.inr q)] σ K := by
  refine Mt.go (lv := [some (.inr (.inr 146)), some (.inr (.inr q)), none, none]) rfl rfl rfl ?_
  have n16 := hT.2.1
  refine At.blk rfl rfl rfl fun sx => ?_
  simp (decide := true) only [RR, ms_app, toList_some, toList_none, if_true, if_false, true_and, and_true, cond_true, sm0, sm1, sm1l, sm2, lc_lt, lc_gt, lc_eq, Int.toNat_natCast, Int.reduceToNat, Nat.reduceAdd, Nat.reduceEqDiff, Int.reduceLT, Int.reduceEq, Int.reduceNeg, Int.reduceAdd, Int.reduceMul, Nat.reduceMul, ms_n, ms_i, ms_l, ms_p, PM, hb]
  refine cal_of rfl (m_look hF hT hP (fun σ1 f1 p1 => ?_))
  have hF1 := hF.fr f1 rfl
  have hT1 : TxM σ1 N t := hT.cg (f1 146 3 rfl) (f1.row 147 rfl)
  obtain ⟨r1, r2, r3, r4, r5⟩ := wrB.get hq hF1
  obtain ⟨a1, a2, a3⟩ := p1
  have sN := a2.2.1
  simp (decide := true) only [RR, ms_app, toList_some, toList_none, if_true, if_false, true_and, and_true, cond_true, sm0, sm1, sm1l, sm2, lc_lt, lc_gt, lc_eq, Int.toNat_natCast, Int.reduceToNat, Nat.reduceAdd, Nat.reduceEqDiff, Int.reduceLT, Int.reduceEq, Int.reduceNeg, Int.reduceAdd, Int.reduceMul, Nat.reduceMul, ms_n, ms_i, ms_l, ms_p, PM]
  have no : (∀ e, ¬IsWd N t s g e w) → At (d + 1) 159 1 [some (.inr (.inr 146)), some (.inr (.inr q)), none, none] [] σ1 K := by
    intro h
    refine At.blk rfl rfl rfl fun sx => ?_
    simp (decide := true) only [RR, ms_app, toList_some, toList_none, if_true, if_false, true_and, and_true, cond_true, sm0, sm1, sm1l, sm2, lc_lt, lc_gt, lc_eq, Int.toNat_natCast, Int.reduceToNat, Nat.reduceAdd, Nat.reduceEqDiff, Int.reduceLT, Int.reduceEq, Int.reduceNeg, Int.reduceAdd, Int.reduceMul, Nat.reduceMul, ms_n, ms_i, ms_l, ms_p, PM]
    exact h0 σ1 f1 ⟨a1, a2, a3⟩ h
  have eN : σ1 146 3 = (N : Int) := hT1.1
  refine cal_of rfl (m_isLetter (fun hl => ?_) (fun hl => ?_))
  · have hsN : s < N := by
      unfold chr0 at hl
      by_cases c : s < N
      · exact c
      · rw [if_neg c] at hl; omega
    have hl : ltr (t s) := by
      unfold chr0 at hl
      rw [if_pos hsN] at hl; exact hl
    have hg := a3.2 hsN (Or.inl hl)
    simp (decide := true) only [RR, ms_app, toList_some, toList_none, if_true, if_false, true_and, and_true, cond_true, sm0, sm1, sm1l, sm2, lc_lt, lc_gt, lc_eq, Int.toNat_natCast, Int.reduceToNat, Nat.reduceAdd, Nat.reduceEqDiff, Int.reduceLT, Int.reduceEq, Int.reduceNeg, Int.reduceAdd, Int.reduceMul, Nat.reduceMul, ms_n, ms_i, ms_l, ms_p, PM, a1]
    by_cases c : (s : Int) = σ1 146 4
    · rw [if_pos c]
      exact no (fun e h => by
        have := hg.mpr c.symm
        rw [h.1] at this; cases this)
    · rw [if_neg c]
      have g0 : g = false := by
        cases hgg : g
        · rfl
        · exact absurd (hg.mp hgg).symm c
      refine At.blk rfl rfl rfl fun sx => ?_
      simp (decide := true) only [RR, ms_app, toList_some, toList_none, if_true, if_false, true_and, and_true, cond_true, sm0, sm1, sm1l, sm2, lc_lt, lc_gt, lc_eq, Int.toNat_natCast, Int.reduceToNat, Nat.reduceAdd, Nat.reduceEqDiff, Int.reduceLT, Int.reduceEq, Int.reduceNeg, Int.reduceAdd, Int.reduceMul, Nat.reduceMul, ms_n, ms_i, ms_l, ms_p, PM, a1]
      have scan : ∀ m k : Nat, N - k = m → k ≤ N → s ≤ k → (∀ j, s ≤ j → j < k → ltr (t j)) → At (d + 1) 159 3 [some (.inr (.inr 146)), some (.inr (.inr q)), some (.inl (k : Int)), none] [] σ1 K := by
        have four : ∀ e : Nat, RunP ltr N t s e → At (d + 1) 159 4 [some (.inr (.inr 146)), some (.inr (.inr q)), some (.inl (e : Int)), none] [] σ1 K := by
          intro e hr
          have er1 := hr.1
          have er2 := hr.2.1
          have hwl := r2
          have w0 : Unit → w32 ((e : Int) - (s : Int)) = ((e - s : Nat) : Int) := fun _ => by rw [w32_small (by omega) (by omega)]; omega
          refine At.blk rfl rfl rfl fun sx => ?_
          simp (decide := true) only [RR, ms_app, toList_some, toList_none, if_true, if_false, true_and, and_true, cond_true, sm0, sm1, sm1l, sm2, lc_lt, lc_gt, lc_eq, Int.toNat_natCast, Int.reduceToNat, Nat.reduceAdd, Nat.reduceEqDiff, Int.reduceLT, Int.reduceEq, Int.reduceNeg, Int.reduceAdd, Int.reduceMul, Nat.reduceMul, ms_n, ms_i, ms_l, ms_p, PM, a1, w0 (), al_gen r3 r4 r2]
          by_cases c2 : ((e - s : Nat) : Int) = ((wl w : Nat) : Int)
          · rw [if_pos c2]
            refine At.blk rfl rfl rfl fun sx => ?_
            simp (decide := true) only [RR, ms_app, toList_some, toList_none, if_true, if_false, true_and, and_true, cond_true, sm0, sm1, sm1l, sm2, lc_lt, lc_gt, lc_eq, Int.toNat_natCast, Int.reduceToNat, Nat.reduceAdd, Nat.reduceEqDiff, Int.reduceLT, Int.reduceEq, Int.reduceNeg, Int.reduceAdd, Int.reduceMul, Nat.reduceMul, ms_n, ms_i, ms_l, ms_p, PM]
            have cmp : ∀ m k : Nat, wl w - k = m → k ≤ wl w → (∀ j, j < k → t (s + j) = wch w j) → At (d + 1) 159 6 [some (.inr (.inr 146)), some (.inr (.inr q)), some (.inl (e : Int)), some (.inl (k : Int))] [] σ1 K := by
              intro m
              induction m with
              | zero =>
                intro k hk hk2 hqq
                obtain rfl : k = wl w := by omega
                refine At.blk rfl rfl rfl fun sx => ?_
                simp (decide := true) only [RR, ms_app, toList_some, toList_none, if_true, if_false, true_and, and_true, cond_true, sm0, sm1, sm1l, sm2, lc_lt, lc_gt, lc_eq, Int.toNat_natCast, Int.reduceToNat, Nat.reduceAdd, Nat.reduceEqDiff, Int.reduceLT, Int.reduceEq, Int.reduceNeg, Int.reduceAdd, Int.reduceMul, Nat.reduceMul, ms_n, ms_i, ms_l, ms_p, PM, al_gen r3 r4 r2]
                rw [if_neg (by omega)]
                refine At.blk rfl rfl rfl fun sx => ?_
                simp (decide := true) only [RR, ms_app, toList_some, toList_none, if_true, if_false, true_and, and_true, cond_true, sm0, sm1, sm1l, sm2, lc_lt, lc_gt, lc_eq, Int.toNat_natCast, Int.reduceToNat, Nat.reduceAdd, Nat.reduceEqDiff, Int.reduceLT, Int.reduceEq, Int.reduceNeg, Int.reduceAdd, Int.reduceMul, Nat.reduceMul, ms_n, ms_i, ms_l, ms_p, PM]
                exact h1 σ1 e f1 ⟨a1, a2, a3⟩ ⟨g0, hsN, hl, hr, by omega, hqq⟩
              | succ m ih =>
                intro k hk hk2 hqq
                have w1 : Unit → w32 ((k : Int) + 1) = ((k + 1 : Nat) : Int) := fun _ => by rw [w32_small (by omega) (by omega)]; omega
                have w2 : Unit → w32 ((s : Int) + (k : Int)) = ((s + k : Nat) : Int) := fun _ => by rw [w32_small (by omega) (by omega)]; omega
                refine At.blk rfl rfl rfl fun sx => ?_
                simp (decide := true) only [RR, ms_app, toList_some, toList_none, if_true, if_false, true_and, and_true, cond_true, sm0, sm1, sm1l, sm2, lc_lt, lc_gt, lc_eq, Int.toNat_natCast, Int.reduceToNat, Nat.reduceAdd, Nat.reduceEqDiff, Int.reduceLT, Int.reduceEq, Int.reduceNeg, Int.reduceAdd, Int.reduceMul, Nat.reduceMul, ms_n, ms_i, ms_l, ms_p, PM, al_gen r3 r4 r2, ca_gen r1 r2, fxM hF1, a1, w2 (), (hT1.2.2 (s + k) (by omega)).1, r5 k (by omega)]
                rw [if_pos (by omega)]
                refine ⟨⟨by omega, by omega⟩, ⟨by omega, by omega⟩, ?_⟩
                by_cases c3 : t (s + k) = wch w k
                · rw [if_pos c3]
                  refine At.blk rfl rfl rfl fun sx => ?_
                  simp (decide := true) only [RR, ms_app, toList_some, toList_none, if_true, if_false, true_and, and_true, cond_true, sm0, sm1, sm1l, sm2, lc_lt, lc_gt, lc_eq, Int.toNat_natCast, Int.reduceToNat, Nat.reduceAdd, Nat.reduceEqDiff, Int.reduceLT, Int.reduceEq, Int.reduceNeg, Int.reduceAdd, Int.reduceMul, Nat.reduceMul, ms_n, ms_i, ms_l, ms_p, PM, w1 ()]
                  refine ih (k + 1) (by omega) (by omega) (fun j hj => ?_)
                  by_cases e2 : j = k
                  · rw [e2]; exact c3
                  · exact hqq j (by omega)
                · rw [if_neg c3]
                  have fin := h0 σ1 f1 ⟨a1, a2, a3⟩ (fun e2 h => c3 (h.2.2.2.2.2 k (by omega)))
                  first | exact fin | exact ⟨Or.inl rfl, fin⟩
            exact cmp (wl w) 0 rfl (by omega) (fun j hj => absurd hj (by omega))
          · rw [if_neg c2]
            have fin := h0 σ1 f1 ⟨a1, a2, a3⟩ (fun e2 h => by
              have h2 := h.2.2.2.1.uniq hr
              have h3 := h.2.2.2.2.1
              omega)
            first | exact fin | exact ⟨Or.inl rfl, fin⟩
        intro m
        induction m with
        | zero =>
          intro k hk hk2 hk3 hqq
          obtain rfl : k = N := by omega
          refine At.blk rfl rfl rfl fun sx => ?_
          simp (decide := true) only [RR, ms_app, toList_some, toList_none, if_true, if_false, true_and, and_true, cond_true, sm0, sm1, sm1l, sm2, lc_lt, lc_gt, lc_eq, Int.toNat_natCast, Int.reduceToNat, Nat.reduceAdd, Nat.reduceEqDiff, Int.reduceLT, Int.reduceEq, Int.reduceNeg, Int.reduceAdd, Int.reduceMul, Nat.reduceMul, ms_n, ms_i, ms_l, ms_p, PM, eN]
          rw [if_neg (by omega)]
          exact four k ⟨hk3, Nat.le_refl _, hqq, fun h => absurd h (by omega)⟩
        | succ m ih =>
          intro k hk hk2 hk3 hqq
          have w1 : Unit → w32 ((k : Int) + 1) = ((k + 1 : Nat) : Int) := fun _ => by rw [w32_small (by omega) (by omega)]; omega
          refine At.blk rfl rfl rfl fun sx => ?_
          simp (decide := true) only [RR, ms_app, toList_some, toList_none, if_true, if_false, true_and, and_true, cond_true, sm0, sm1, sm1l, sm2, lc_lt, lc_gt, lc_eq, Int.toNat_natCast, Int.reduceToNat, Nat.reduceAdd, Nat.reduceEqDiff, Int.reduceLT, Int.reduceEq, Int.reduceNeg, Int.reduceAdd, Int.reduceMul, Nat.reduceMul, ms_n, ms_i, ms_l, ms_p, PM, eN, fxM hF1, (hT1.2.2 k (by omega)).1]
          rw [if_pos (by omega)]
          refine ⟨⟨by omega, by omega⟩, ?_⟩
          refine cal_of rfl (m_isLetter (fun h => ?_) (fun h => ?_))
          · simp (decide := true) only [RR, ms_app, toList_some, toList_none, if_true, if_false, true_and, and_true, cond_true, sm0, sm1, sm1l, sm2, lc_lt, lc_gt, lc_eq, Int.toNat_natCast, Int.reduceToNat, Nat.reduceAdd, Nat.reduceEqDiff, Int.reduceLT, Int.reduceEq, Int.reduceNeg, Int.reduceAdd, Int.reduceMul, Nat.reduceMul, ms_n, ms_i, ms_l, ms_p, PM, w1 ()]
            refine ih (k + 1) (by omega) (by omega) (by omega) (fun j h2 h3 => ?_)
            by_cases e : j = k
            · rw [e]; exact h
            · exact hqq j h2 (by omega)
          · simp (decide := true) only [RR, ms_app, toList_some, toList_none, if_true, if_false, true_and, and_true, cond_true, sm0, sm1, sm1l, sm2, lc_lt, lc_gt, lc_eq, Int.toNat_natCast, Int.reduceToNat, Nat.reduceAdd, Nat.reduceEqDiff, Int.reduceLT, Int.reduceEq, Int.reduceNeg, Int.reduceAdd, Int.reduceMul, Nat.reduceMul, ms_n, ms_i, ms_l, ms_p, PM]
            exact four k ⟨hk3, hk2, hqq, fun _ => h⟩
      exact scan (N - s) s rfl sN (Nat.le_refl _) (fun j a b => absurd b (by omega))
  · simp (decide := true) only [RR, ms_app, toList_some, toList_none, if_true, if_false, true_and, and_true, cond_true, sm0, sm1, sm1l, sm2, lc_lt, lc_gt, lc_eq, Int.toNat_natCast, Int.reduceToNat, Nat.reduceAdd, Nat.reduceEqDiff, Int.reduceLT, Int.reduceEq, Int.reduceNeg, Int.reduceAdd, Int.reduceMul, Nat.reduceMul, ms_n, ms_i, ms_l, ms_p, PM]
    exact no (fun e h => hl (by unfold chr0; rw [if_pos h.2.1]; exact h.2.2.1))
theorem m_takes {q w : Nat} (hw : w < 27) (hq : wrB q w = true) (hF : Fix σ) (hT : TxM σ N t) (hb : σ 146 5 = 0) (hP : PosM σ N t s g) (h1 : ∀ σ' e s', Fr [] tmT σ σ' → IsWd N t s g e w → Skp N t e s' → PosM σ' N t s' (decide (s' = e)) → K (some (.inl 1)) σ') (h0 : ∀ σ', Fr [] lkT σ σ' → PosA σ' N t s g → (∀ e, ¬IsWd N t s g e w) → K (some (.inl 0)) σ') : Mt (d + 3) 160 [.inr (.inr 146), .inr (.inr q)] σ K := by
  refine Mt.go (lv := [some (.inr (.inr 146)), some (.inr (.inr q))]) rfl rfl rfl ?_
  have n16 := hT.2.1
  refine At.blk rfl rfl rfl fun sx => ?_
  simp (decide := true) only [RR, ms_app, toList_some, toList_none, if_true, if_false, true_and, and_true, cond_true, sm0, sm1, sm1l, sm2, lc_lt, lc_gt, lc_eq, Int.toNat_natCast, Int.reduceToNat, Nat.reduceAdd, Nat.reduceEqDiff, Int.reduceLT, Int.reduceEq, Int.reduceNeg, Int.reduceAdd, Int.reduceMul, Nat.reduceMul, ms_n, ms_i, ms_l, ms_p, PM]
  refine cal_of rfl (m_isHere hq hF hT hb hP (fun σ1 e f1 p1 hi => ?_) (fun σ1 f1 p1 hi => ?_))
  · have hF1 := hF.fr f1 rfl
    obtain ⟨r1, r2, r3, r4, r5⟩ := wrB.get hq hF1
    have he := hi.2.2.2.2.1
    have er := hi.2.2.2.1.2.1
    obtain ⟨s', hs'⟩ := skp_ex (N := N) (t := t) (N - e) e rfl er
    have w0 : Unit → w32 ((s : Int) + ((wl w : Nat) : Int)) = (e : Int) := fun _ => by rw [w32_small (by omega) (by omega)]; omega
    simp (decide := true) only [RR, ms_app, toList_some, toList_none, if_true, if_false, true_and, and_true, cond_true, sm0, sm1, sm1l, sm2, lc_lt, lc_gt, lc_eq, Int.toNat_natCast, Int.reduceToNat, Nat.reduceAdd, Nat.reduceEqDiff, Int.reduceLT, Int.reduceEq, Int.reduceNeg, Int.reduceAdd, Int.reduceMul, Nat.reduceMul, ms_n, ms_i, ms_l, ms_p, PM]
    refine At.blk rfl rfl rfl fun sx => ?_
    simp (decide := true) only [RR, ms_app, toList_some, toList_none, if_true, if_false, true_and, and_true, cond_true, sm0, sm1, sm1l, sm2, lc_lt, lc_gt, lc_eq, Int.toNat_natCast, Int.reduceToNat, Nat.reduceAdd, Nat.reduceEqDiff, Int.reduceLT, Int.reduceEq, Int.reduceNeg, Int.reduceAdd, Int.reduceMul, Nat.reduceMul, ms_n, ms_i, ms_l, ms_p, PM, p1.1, al_gen r3 r4 r2, w0 ()]
    refine h1 _ e s' ((f1.mono rfl).set rfl |>.set rfl) hi hs' ⟨⟨e, rfl, hs'⟩, ?_, fun a b => ?_⟩
    · rw [ms_app, if_pos rfl, if_pos rfl]; have := hs'.1; omega
    · rw [ms_app, if_pos rfl, if_pos rfl, decide_eq_true_iff]
      omega
  · simp (decide := true) only [RR, ms_app, toList_some, toList_none, if_true, if_false, true_and, and_true, cond_true, sm0, sm1, sm1l, sm2, lc_lt, lc_gt, lc_eq, Int.toNat_natCast, Int.reduceToNat, Nat.reduceAdd, Nat.reduceEqDiff, Int.reduceLT, Int.reduceEq, Int.reduceNeg, Int.reduceAdd, Int.reduceMul, Nat.reduceMul, ms_n, ms_i, ms_l, ms_p, PM]
    exact h0 σ1 f1 p1 hi
theorem m_asks {q w : Nat} (hw : w < 27) (hq : wrB q w = true) (hF : Fix σ) (hT : TxM σ N t) (hb : σ 146 5 = 0) (hP : PosM σ N t s g) (h1 : ∀ σ' e s', Fr [] tmT σ σ' → IsWd N t s g e w → Skp N t e s' → PosM σ' N t s' (decide (s' = e)) → K none σ') (h0 : ∀ σ', Fr [] msT σ σ' → (∀ e, ¬IsWd N t s g e w) → σ' 146 5 = 1 → σ' 146 6 = (s : Int) → K none σ') : Mt (d + 4) 161 [.inr (.inr 146), .inr (.inr q)] σ K := by
  refine Mt.go (lv := [some (.inr (.inr 146)), some (.inr (.inr q))]) rfl rfl rfl ?_
  refine At.blk rfl rfl rfl fun sx => ?_
  simp (decide := true) only [RR, ms_app, toList_some, toList_none, if_true, if_false, true_and, and_true, cond_true, sm0, sm1, sm1l, sm2, lc_lt, lc_gt, lc_eq, Int.toNat_natCast, Int.reduceToNat, Nat.reduceAdd, Nat.reduceEqDiff, Int.reduceLT, Int.reduceEq, Int.reduceNeg, Int.reduceAdd, Int.reduceMul, Nat.reduceMul, ms_n, ms_i, ms_l, ms_p, PM, hb]
  refine cal_of rfl (m_takes hw hq hF hT hb hP (fun σ1 e s1 f1 hi k1 p1 => ?_) (fun σ1 f1 p1 hi => ?_))
  · simp (decide := true) only [RR, ms_app, toList_some, toList_none, if_true, if_false, true_and, and_true, cond_true, sm0, sm1, sm1l, sm2, lc_lt, lc_gt, lc_eq, Int.toNat_natCast, Int.reduceToNat, Nat.reduceAdd, Nat.reduceEqDiff, Int.reduceLT, Int.reduceEq, Int.reduceNeg, Int.reduceAdd, Int.reduceMul, Nat.reduceMul, ms_n, ms_i, ms_l, ms_p, PM]
    refine At.blk rfl rfl rfl fun sx => ?_
    simp (decide := true) only [RR, ms_app, toList_some, toList_none, if_true, if_false, true_and, and_true, cond_true, sm0, sm1, sm1l, sm2, lc_lt, lc_gt, lc_eq, Int.toNat_natCast, Int.reduceToNat, Nat.reduceAdd, Nat.reduceEqDiff, Int.reduceLT, Int.reduceEq, Int.reduceNeg, Int.reduceAdd, Int.reduceMul, Nat.reduceMul, ms_n, ms_i, ms_l, ms_p, PM]
    exact h1 σ1 e s1 f1 hi k1 p1
  · simp (decide := true) only [RR, ms_app, toList_some, toList_none, if_true, if_false, true_and, and_true, cond_true, sm0, sm1, sm1l, sm2, lc_lt, lc_gt, lc_eq, Int.toNat_natCast, Int.reduceToNat, Nat.reduceAdd, Nat.reduceEqDiff, Int.reduceLT, Int.reduceEq, Int.reduceNeg, Int.reduceAdd, Int.reduceMul, Nat.reduceMul, ms_n, ms_i, ms_l, ms_p, PM, p1.1]
    refine cal_of rfl (m_fail ((f1 146 5 rfl).trans hb) ?_)
    simp (decide := true) only [RR, ms_app, toList_some, toList_none, if_true, if_false, true_and, and_true, cond_true, sm0, sm1, sm1l, sm2, lc_lt, lc_gt, lc_eq, Int.toNat_natCast, Int.reduceToNat, Nat.reduceAdd, Nat.reduceEqDiff, Int.reduceLT, Int.reduceEq, Int.reduceNeg, Int.reduceAdd, Int.reduceMul, Nat.reduceMul, ms_n, ms_i, ms_l, ms_p, PM]
    refine At.blk rfl rfl rfl fun sx => ?_
    simp (decide := true) only [RR, ms_app, toList_some, toList_none, if_true, if_false, true_and, and_true, cond_true, sm0, sm1, sm1l, sm2, lc_lt, lc_gt, lc_eq, Int.toNat_natCast, Int.reduceToNat, Nat.reduceAdd, Nat.reduceEqDiff, Int.reduceLT, Int.reduceEq, Int.reduceNeg, Int.reduceAdd, Int.reduceMul, Nat.reduceMul, ms_n, ms_i, ms_l, ms_p, PM]
    exact h0 _ (((f1.mono rfl).set rfl).set rfl) hi rfl rfl
theorem m_takesSign {c : Int} (hc : sgn c) (hF : Fix σ) (hT : TxM σ N t) (hb : σ 146 5 = 0) (hP : PosM σ N t s g) (h1 : ∀ σ' s', Fr [] tmT σ σ' → IsSg N t s c → Skp N t (s + 1) s' → σ' 146 2 = ((s + 1 : Nat) : Int) → PosM σ' N t s' false → K (some (.inl 1)) σ') (h0 : ∀ σ', Fr [] lkT σ σ' → PosA σ' N t s g → ¬IsSg N t s c → K (some (.inl 0)) σ') : Mt (d + 2) 162 [.inr (.inr 146), .inl c] σ K := by
  refine Mt.go (lv := [some (.inr (.inr 146)), some (.inl c)]) rfl rfl rfl ?_
  have n16 := hT.2.1
  refine At.blk rfl rfl rfl fun sx => ?_
  simp (decide := true) only [RR, ms_app, toList_some, toList_none, if_true, if_false, true_and, and_true, cond_true, sm0, sm1, sm1l, sm2, lc_lt, lc_gt, lc_eq, Int.toNat_natCast, Int.reduceToNat, Nat.reduceAdd, Nat.reduceEqDiff, Int.reduceLT, Int.reduceEq, Int.reduceNeg, Int.reduceAdd, Int.reduceMul, Nat.reduceMul, ms_n, ms_i, ms_l, ms_p, PM, hb]
  refine cal_of rfl (m_look hF hT hP (fun σ1 f1 p1 => ?_))
  simp (decide := true) only [RR, ms_app, toList_some, toList_none, if_true, if_false, true_and, and_true, cond_true, sm0, sm1, sm1l, sm2, lc_lt, lc_gt, lc_eq, Int.toNat_natCast, Int.reduceToNat, Nat.reduceAdd, Nat.reduceEqDiff, Int.reduceLT, Int.reduceEq, Int.reduceNeg, Int.reduceAdd, Int.reduceMul, Nat.reduceMul, ms_n, ms_i, ms_l, ms_p, PM]
  by_cases h : chr0 N t s = c
  · rw [if_pos h]
    have hi : IsSg N t s c := by
      unfold chr0 at h
      by_cases c1 : s < N
      · rw [if_pos c1] at h; exact ⟨c1, h⟩
      · rw [if_neg c1] at h; unfold sgn at hc; omega
    have hs := hi.1
    obtain ⟨s', hs'⟩ := skp_ex (N := N) (t := t) (N - (s + 1)) (s + 1) rfl (by omega)
    have w0 : Unit → w32 ((s : Int) + 1) = ((s + 1 : Nat) : Int) := fun _ => by rw [w32_small (by omega) (by omega)]; omega
    refine At.blk rfl rfl rfl fun sx => ?_
    simp (decide := true) only [RR, ms_app, toList_some, toList_none, if_true, if_false, true_and, and_true, cond_true, sm0, sm1, sm1l, sm2, lc_lt, lc_gt, lc_eq, Int.toNat_natCast, Int.reduceToNat, Nat.reduceAdd, Nat.reduceEqDiff, Int.reduceLT, Int.reduceEq, Int.reduceNeg, Int.reduceAdd, Int.reduceMul, Nat.reduceMul, ms_n, ms_i, ms_l, ms_p, PM, p1.1, w0 ()]
    refine h1 _ s' ((f1.mono rfl).set rfl) hi hs' rfl ⟨⟨s + 1, rfl, hs'⟩, ?_⟩
    have h4 := p1.2.2.1
    have := hs'.1
    refine ⟨?_, fun a b => ?_⟩
    · show σ1 146 4 ≤ _; omega
    · constructor
      · intro h; cases h
      · intro h
        have h : σ1 146 4 = (s' : Int) := h
        omega
  · rw [if_neg h]
    refine At.blk rfl rfl rfl fun sx => ?_
    simp (decide := true) only [RR, ms_app, toList_some, toList_none, if_true, if_false, true_and, and_true, cond_true, sm0, sm1, sm1l, sm2, lc_lt, lc_gt, lc_eq, Int.toNat_natCast, Int.reduceToNat, Nat.reduceAdd, Nat.reduceEqDiff, Int.reduceLT, Int.reduceEq, Int.reduceNeg, Int.reduceAdd, Int.reduceMul, Nat.reduceMul, ms_n, ms_i, ms_l, ms_p, PM]
    refine h0 σ1 f1 p1 (fun hi => h ?_)
    unfold chr0
    rw [if_pos hi.1]; exact hi.2
theorem m_asksSign {c : Int} (hc : sgn c) (hF : Fix σ) (hT : TxM σ N t) (hb : σ 146 5 = 0) (hP : PosM σ N t s g) (h1 : ∀ σ' s', Fr [] tmT σ σ' → IsSg N t s c → Skp N t (s + 1) s' → PosM σ' N t s' false → K none σ') (h0 : ∀ σ', Fr [] msT σ σ' → ¬IsSg N t s c → σ' 146 5 = 1 → σ' 146 6 = (s : Int) → K none σ') : Mt (d + 3) 163 [.inr (.inr 146), .inl c] σ K := by
  refine Mt.go (lv := [some (.inr (.inr 146)), some (.inl c)]) rfl rfl rfl ?_
  refine At.blk rfl rfl rfl fun sx => ?_
  simp (decide := true) only [RR, ms_app, toList_some, toList_none, if_true, if_false, true_and, and_true, cond_true, sm0, sm1, sm1l, sm2, lc_lt, lc_gt, lc_eq, Int.toNat_natCast, Int.reduceToNat, Nat.reduceAdd, Nat.reduceEqDiff, Int.reduceLT, Int.reduceEq, Int.reduceNeg, Int.reduceAdd, Int.reduceMul, Nat.reduceMul, ms_n, ms_i, ms_l, ms_p, PM, hb]
  refine cal_of rfl (m_takesSign hc hF hT hb hP (fun σ1 s1 f1 hi k1 _ p1 => ?_) (fun σ1 f1 p1 hi => ?_))
  · simp (decide := true) only [RR, ms_app, toList_some, toList_none, if_true, if_false, true_and, and_true, cond_true, sm0, sm1, sm1l, sm2, lc_lt, lc_gt, lc_eq, Int.toNat_natCast, Int.reduceToNat, Nat.reduceAdd, Nat.reduceEqDiff, Int.reduceLT, Int.reduceEq, Int.reduceNeg, Int.reduceAdd, Int.reduceMul, Nat.reduceMul, ms_n, ms_i, ms_l, ms_p, PM]
    refine At.blk rfl rfl rfl fun sx => ?_
    simp (decide := true) only [RR, ms_app, toList_some, toList_none, if_true, if_false, true_and, and_true, cond_true, sm0, sm1, sm1l, sm2, lc_lt, lc_gt, lc_eq, Int.toNat_natCast, Int.reduceToNat, Nat.reduceAdd, Nat.reduceEqDiff, Int.reduceLT, Int.reduceEq, Int.reduceNeg, Int.reduceAdd, Int.reduceMul, Nat.reduceMul, ms_n, ms_i, ms_l, ms_p, PM]
    exact h1 σ1 s1 f1 hi k1 p1
  · simp (decide := true) only [RR, ms_app, toList_some, toList_none, if_true, if_false, true_and, and_true, cond_true, sm0, sm1, sm1l, sm2, lc_lt, lc_gt, lc_eq, Int.toNat_natCast, Int.reduceToNat, Nat.reduceAdd, Nat.reduceEqDiff, Int.reduceLT, Int.reduceEq, Int.reduceNeg, Int.reduceAdd, Int.reduceMul, Nat.reduceMul, ms_n, ms_i, ms_l, ms_p, PM, p1.1]
    refine cal_of rfl (m_fail ((f1 146 5 rfl).trans hb) ?_)
    simp (decide := true) only [RR, ms_app, toList_some, toList_none, if_true, if_false, true_and, and_true, cond_true, sm0, sm1, sm1l, sm2, lc_lt, lc_gt, lc_eq, Int.toNat_natCast, Int.reduceToNat, Nat.reduceAdd, Nat.reduceEqDiff, Int.reduceLT, Int.reduceEq, Int.reduceNeg, Int.reduceAdd, Int.reduceMul, Nat.reduceMul, ms_n, ms_i, ms_l, ms_p, PM]
    refine At.blk rfl rfl rfl fun sx => ?_
    simp (decide := true) only [RR, ms_app, toList_some, toList_none, if_true, if_false, true_and, and_true, cond_true, sm0, sm1, sm1l, sm2, lc_lt, lc_gt, lc_eq, Int.toNat_natCast, Int.reduceToNat, Nat.reduceAdd, Nat.reduceEqDiff, Int.reduceLT, Int.reduceEq, Int.reduceNeg, Int.reduceAdd, Int.reduceMul, Nat.reduceMul, ms_n, ms_i, ms_l, ms_p, PM]
    exact h0 _ (((f1.mono rfl).set rfl).set rfl) hi rfl rfl
theorem m_number {a b : Int} (hF : Fix σ) (hT : TxM σ N t) (hb : σ 146 5 = 0) (hP : PosM σ N t s g) (h1 : ∀ σ' e s', Fr [] tmT σ σ' → IsNm N t s g e → e - s ≤ 4 → (a ≤ numV t s (e - s) ∧ numV t s (e - s) ≤ b) → Skp N t e s' → PosM σ' N t s' (decide (s' = e)) → K (some (.inl (numV t s (e - s)))) σ') (h0 : ∀ σ' k p v, Fr [] msT σ σ' → NmF N t s g a b k p → σ' 146 5 = k → σ' 146 6 = p → (0 ≤ v ∧ v ≤ 9999) → K (some (.inl v)) σ') : Mt (d + 2) 164 [.inr (.inr 146), .inl a, .inl b] σ K := by
  refine Mt.go (lv := [some (.inr (.inr 146)), some (.inl a), some (.inl b), none, none]) rfl rfl rfl ?_
  have n16 := hT.2.1
  refine At.blk rfl rfl rfl fun sx => ?_
  simp (decide := true) only [RR, ms_app, toList_some, toList_none, if_true, if_false, true_and, and_true, cond_true, sm0, sm1, sm1l, sm2, lc_lt, lc_gt, lc_eq, Int.toNat_natCast, Int.reduceToNat, Nat.reduceAdd, Nat.reduceEqDiff, Int.reduceLT, Int.reduceEq, Int.reduceNeg, Int.reduceAdd, Int.reduceMul, Nat.reduceMul, ms_n, ms_i, ms_l, ms_p, PM, hb]
  refine At.blk rfl rfl rfl fun sx => ?_
  simp (decide := true) only [RR, ms_app, toList_some, toList_none, if_true, if_false, true_and, and_true, cond_true, sm0, sm1, sm1l, sm2, lc_lt, lc_gt, lc_eq, Int.toNat_natCast, Int.reduceToNat, Nat.reduceAdd, Nat.reduceEqDiff, Int.reduceLT, Int.reduceEq, Int.reduceNeg, Int.reduceAdd, Int.reduceMul, Nat.reduceMul, ms_n, ms_i, ms_l, ms_p, PM]
  refine cal_of rfl (m_look hF hT hP (fun σ1 f1 p1 => ?_))
  have hF1 := hF.fr f1 rfl
  have hT1 : TxM σ1 N t := hT.cg (f1 146 3 rfl) (f1.row 147 rfl)
  have hb1 : σ1 146 5 = 0 := (f1 146 5 rfl).trans hb
  obtain ⟨a1, a2, a3⟩ := p1
  have sN := a2.2.1
  simp (decide := true) only [RR, ms_app, toList_some, toList_none, if_true, if_false, true_and, and_true, cond_true, sm0, sm1, sm1l, sm2, lc_lt, lc_gt, lc_eq, Int.toNat_natCast, Int.reduceToNat, Nat.reduceAdd, Nat.reduceEqDiff, Int.reduceLT, Int.reduceEq, Int.reduceNeg, Int.reduceAdd, Int.reduceMul, Nat.reduceMul, ms_n, ms_i, ms_l, ms_p, PM]
  have no : (∀ e, ¬IsNm N t s g e) → At (d + 1) 164 2 [some (.inr (.inr 146)), some (.inl a), some (.inl b), none, none] [] σ1 K := by
    intro h
    refine At.blk rfl rfl rfl fun sx => ?_
    simp (decide := true) only [RR, ms_app, toList_some, toList_none, if_true, if_false, true_and, and_true, cond_true, sm0, sm1, sm1l, sm2, lc_lt, lc_gt, lc_eq, Int.toNat_natCast, Int.reduceToNat, Nat.reduceAdd, Nat.reduceEqDiff, Int.reduceLT, Int.reduceEq, Int.reduceNeg, Int.reduceAdd, Int.reduceMul, Nat.reduceMul, ms_n, ms_i, ms_l, ms_p, PM, a1]
    refine cal_of rfl (m_fail hb1 ?_)
    simp (decide := true) only [RR, ms_app, toList_some, toList_none, if_true, if_false, true_and, and_true, cond_true, sm0, sm1, sm1l, sm2, lc_lt, lc_gt, lc_eq, Int.toNat_natCast, Int.reduceToNat, Nat.reduceAdd, Nat.reduceEqDiff, Int.reduceLT, Int.reduceEq, Int.reduceNeg, Int.reduceAdd, Int.reduceMul, Nat.reduceMul, ms_n, ms_i, ms_l, ms_p, PM]
    exact h0 _ 1 s 0 (((f1.mono rfl).set rfl).set rfl) (Or.inl ⟨rfl, rfl, h⟩) rfl rfl (by omega)
  refine cal_of rfl (m_isDigit (fun hl => ?_) (fun hl => ?_))
  · have hsN : s < N := by
      unfold chr0 at hl
      by_cases c : s < N
      · exact c
      · rw [if_neg c] at hl; omega
    have hl : dgt (t s) := by
      unfold chr0 at hl
      rw [if_pos hsN] at hl; exact hl
    have hg := a3.2 hsN (Or.inr hl)
    simp (decide := true) only [RR, ms_app, toList_some, toList_none, if_true, if_false, true_and, and_true, cond_true, sm0, sm1, sm1l, sm2, lc_lt, lc_gt, lc_eq, Int.toNat_natCast, Int.reduceToNat, Nat.reduceAdd, Nat.reduceEqDiff, Int.reduceLT, Int.reduceEq, Int.reduceNeg, Int.reduceAdd, Int.reduceMul, Nat.reduceMul, ms_n, ms_i, ms_l, ms_p, PM, a1]
    by_cases c : (s : Int) = σ1 146 4
    · rw [if_pos c]
      exact no (fun e h => by
        have := hg.mpr c.symm
        rw [h.1] at this; cases this)
    · rw [if_neg c]
      have g0 : g = false := by
        cases hgg : g
        · rfl
        · exact absurd (hg.mp hgg).symm c
      refine At.blk rfl rfl rfl fun sx => ?_
      simp (decide := true) only [RR, ms_app, toList_some, toList_none, if_true, if_false, true_and, and_true, cond_true, sm0, sm1, sm1l, sm2, lc_lt, lc_gt, lc_eq, Int.toNat_natCast, Int.reduceToNat, Nat.reduceAdd, Nat.reduceEqDiff, Int.reduceLT, Int.reduceEq, Int.reduceNeg, Int.reduceAdd, Int.reduceMul, Nat.reduceMul, ms_n, ms_i, ms_l, ms_p, PM, a1]
      have six : ∀ (e : Nat) (σ2 : mM), e - s ≤ 4 → RunP dgt N t s e → Fr [] lkT σ1 σ2 → σ2 146 2 = (e : Int) → At (d + 1) 164 6 [some (.inr (.inr 146)), some (.inl a), some (.inl b), some (.inl (s : Int)), some (.inl (numV t s (e - s)))] [] σ2 K := by
        intro e σ2 h4 hr f2 q2
        have hi : IsNm N t s g e := ⟨g0, hsN, hl, hr⟩
        have nv := numV_le (t := t) (s := s) (e - s) h4 (fun j hj => hr.2.2.1 _ (by omega) (by omega))
        obtain ⟨s', hs'⟩ := skp_ex (N := N) (t := t) (N - e) e rfl hr.2.1
        refine At.blk rfl rfl rfl fun sx => ?_
        simp (decide := true) only [RR, ms_app, toList_some, toList_none, if_true, if_false, true_and, and_true, cond_true, sm0, sm1, sm1l, sm2, lc_lt, lc_gt, lc_eq, Int.toNat_natCast, Int.reduceToNat, Nat.reduceAdd, Nat.reduceEqDiff, Int.reduceLT, Int.reduceEq, Int.reduceNeg, Int.reduceAdd, Int.reduceMul, Nat.reduceMul, ms_n, ms_i, ms_l, ms_p, PM, q2]
        refine cal_of rfl (m_isIn ?_)
        simp (decide := true) only [RR, ms_app, toList_some, toList_none, if_true, if_false, true_and, and_true, cond_true, sm0, sm1, sm1l, sm2, lc_lt, lc_gt, lc_eq, Int.toNat_natCast, Int.reduceToNat, Nat.reduceAdd, Nat.reduceEqDiff, Int.reduceLT, Int.reduceEq, Int.reduceNeg, Int.reduceAdd, Int.reduceMul, Nat.reduceMul, ms_n, ms_i, ms_l, ms_p, PM]
        have F2 : Fr [] tmT σ (mj_set σ2 146 4 (e : Int)) := ((f1.mono rfl).trans (f2.mono rfl)).set rfl
        by_cases c1 : a ≤ numV t s (e - s) ∧ numV t s (e - s) ≤ b
        · rw [if_pos c1]
          first | rw [if_neg (by decide)] | skip
          refine At.blk rfl rfl rfl fun sx => ?_
          simp (decide := true) only [RR, ms_app, toList_some, toList_none, if_true, if_false, true_and, and_true, cond_true, sm0, sm1, sm1l, sm2, lc_lt, lc_gt, lc_eq, Int.toNat_natCast, Int.reduceToNat, Nat.reduceAdd, Nat.reduceEqDiff, Int.reduceLT, Int.reduceEq, Int.reduceNeg, Int.reduceAdd, Int.reduceMul, Nat.reduceMul, ms_n, ms_i, ms_l, ms_p, PM]
          refine h1 _ e s' F2 hi h4 c1 hs' ⟨⟨e, q2, hs'⟩, ?_, fun a b => ?_⟩
          · rw [ms_app, if_pos rfl, if_pos rfl]; have := hs'.1; omega
          · rw [ms_app, if_pos rfl, if_pos rfl, decide_eq_true_iff]
            omega
        · rw [if_neg c1]
          first | rw [if_pos rfl] | skip
          refine cal_of rfl (m_fail (((f2 146 5 rfl).trans hb1)) ?_)
          simp (decide := true) only [RR, ms_app, toList_some, toList_none, if_true, if_false, true_and, and_true, cond_true, sm0, sm1, sm1l, sm2, lc_lt, lc_gt, lc_eq, Int.toNat_natCast, Int.reduceToNat, Nat.reduceAdd, Nat.reduceEqDiff, Int.reduceLT, Int.reduceEq, Int.reduceNeg, Int.reduceAdd, Int.reduceMul, Nat.reduceMul, ms_n, ms_i, ms_l, ms_p, PM]
          refine At.blk rfl rfl rfl fun sx => ?_
          simp (decide := true) only [RR, ms_app, toList_some, toList_none, if_true, if_false, true_and, and_true, cond_true, sm0, sm1, sm1l, sm2, lc_lt, lc_gt, lc_eq, Int.toNat_natCast, Int.reduceToNat, Nat.reduceAdd, Nat.reduceEqDiff, Int.reduceLT, Int.reduceEq, Int.reduceNeg, Int.reduceAdd, Int.reduceMul, Nat.reduceMul, ms_n, ms_i, ms_l, ms_p, PM]
          exact h0 _ 2 s _ (((F2.mono rfl).set rfl).set rfl) (Or.inr ⟨e, hi, Or.inr ⟨h4, c1, rfl, rfl⟩⟩) rfl rfl (by omega)
      have scan : ∀ m k : Nat, 4 - k = m → k ≤ 4 → s + k ≤ N → (∀ j, s ≤ j → j < s + k → dgt (t j)) → ∀ σ2, Fr [] lkT σ1 σ2 → σ2 146 2 = ((s + k : Nat) : Int) → At (d + 1) 164 4 [some (.inr (.inr 146)), some (.inl a), some (.inl b), some (.inl (s : Int)), some (.inl (numV t s k))] [] σ2 K := by
        have stop : ∀ (k : Nat) (σ2 : mM), k ≤ 4 → s + k ≤ N → (∀ j, s ≤ j → j < s + k → dgt (t j)) → (s + k < N → ¬dgt (t (s + k))) → Fr [] lkT σ1 σ2 → σ2 146 2 = ((s + k : Nat) : Int) → At (d + 1) 164 6 [some (.inr (.inr 146)), some (.inl a), some (.inl b), some (.inl (s : Int)), some (.inl (numV t s k))] [] σ2 K := by
          intro k σ2 h4 h5 h6 h7 f2 q2
          have := six (s + k) σ2 (by omega) ⟨by omega, h5, h6, h7⟩ f2 q2
          rw [show s + k - s = k by omega] at this
          exact this
        intro m
        induction m with
        | zero =>
          intro k hk hk2 hk3 hqq σ2 f2 q2
          obtain rfl : k = 4 := by omega
          have hF2 := hF1.fr f2 rfl
          have eN : σ2 146 3 = (N : Int) := (f2 146 3 rfl).trans hT1.1
          by_cases c1 : s + 4 < N
          · have et : σ2 147 (s + 4) = t (s + 4) := (f2 147 _ rfl).trans (hT1.2.2 (s + 4) c1).1
            have w0 : Unit → w32 (((s + 4 : Nat) : Int) - (s : Int)) = 4 := fun _ => by rw [w32_small (by omega) (by omega)]; omega
            refine At.blk rfl rfl rfl fun sx => ?_
            simp (decide := true) only [RR, ms_app, toList_some, toList_none, if_true, if_false, true_and, and_true, cond_true, sm0, sm1, sm1l, sm2, lc_lt, lc_gt, lc_eq, Int.toNat_natCast, Int.reduceToNat, Nat.reduceAdd, Nat.reduceEqDiff, Int.reduceLT, Int.reduceEq, Int.reduceNeg, Int.reduceAdd, Int.reduceMul, Nat.reduceMul, ms_n, ms_i, ms_l, ms_p, PM, fxM hF2, q2, eN, et]
            rw [if_pos (by omega)]
            refine ⟨⟨by omega, by omega⟩, ?_⟩
            refine cal_of rfl (m_isDigit (fun h => ?_) (fun h => ?_))
            · simp (decide := true) only [RR, ms_app, toList_some, toList_none, if_true, if_false, true_and, and_true, cond_true, sm0, sm1, sm1l, sm2, lc_lt, lc_gt, lc_eq, Int.toNat_natCast, Int.reduceToNat, Nat.reduceAdd, Nat.reduceEqDiff, Int.reduceLT, Int.reduceEq, Int.reduceNeg, Int.reduceAdd, Int.reduceMul, Nat.reduceMul, ms_n, ms_i, ms_l, ms_p, PM, q2, w0 ()]
              refine cal_of rfl (m_fail ((f2 146 5 rfl).trans hb1) ?_)
              simp (decide := true) only [RR, ms_app, toList_some, toList_none, if_true, if_false, true_and, and_true, cond_true, sm0, sm1, sm1l, sm2, lc_lt, lc_gt, lc_eq, Int.toNat_natCast, Int.reduceToNat, Nat.reduceAdd, Nat.reduceEqDiff, Int.reduceLT, Int.reduceEq, Int.reduceNeg, Int.reduceAdd, Int.reduceMul, Nat.reduceMul, ms_n, ms_i, ms_l, ms_p, PM]
              -- the run goes on to some end
              have ex : ∀ m i : Nat, N - i = m → i ≤ N → s + 4 < i → (∀ j, s ≤ j → j < i → dgt (t j)) → ∃ e, s + 4 < e ∧ RunP dgt N t s e := by
                intro m
                induction m with
                | zero => intro i h1 h2 h3 h4; exact ⟨i, h3, by omega, by omega, h4, fun h => absurd h (by omega)⟩
                | succ m ih2 =>
                  intro i h1 h2 h3 h4
                  by_cases c2 : 48 ≤ t i ∧ t i ≤ 57
                  · refine ih2 (i + 1) (by omega) (by omega) (by omega) (fun j h5 h6 => ?_)
                    by_cases e : j = i
                    · rw [e]; exact c2
                    · exact h4 j h5 (by omega)
                  · exact ⟨i, h3, by omega, h2, h4, fun _ => c2⟩
              obtain ⟨e, e1, e2⟩ := ex (N - (s + 5)) (s + 5) rfl (by omega) (by omega) (fun j h5 h6 => by
                by_cases e : j = s + 4
                · rw [e]; exact h
                · exact hqq j h5 (by omega))
              exact h0 _ 1 _ 0 ((((f1.mono rfl).trans (f2.mono rfl)).set rfl).set rfl) (Or.inr ⟨e, ⟨g0, hsN, hl, e2⟩, Or.inl ⟨by omega, rfl, rfl⟩⟩) rfl rfl (by omega)
            · simp (decide := true) only [RR, ms_app, toList_some, toList_none, if_true, if_false, true_and, and_true, cond_true, sm0, sm1, sm1l, sm2, lc_lt, lc_gt, lc_eq, Int.toNat_natCast, Int.reduceToNat, Nat.reduceAdd, Nat.reduceEqDiff, Int.reduceLT, Int.reduceEq, Int.reduceNeg, Int.reduceAdd, Int.reduceMul, Nat.reduceMul, ms_n, ms_i, ms_l, ms_p, PM]
              exact stop 4 σ2 (by omega) hk3 hqq (fun _ => h) f2 q2
          · refine At.blk rfl rfl rfl fun sx => ?_
            simp (decide := true) only [RR, ms_app, toList_some, toList_none, if_true, if_false, true_and, and_true, cond_true, sm0, sm1, sm1l, sm2, lc_lt, lc_gt, lc_eq, Int.toNat_natCast, Int.reduceToNat, Nat.reduceAdd, Nat.reduceEqDiff, Int.reduceLT, Int.reduceEq, Int.reduceNeg, Int.reduceAdd, Int.reduceMul, Nat.reduceMul, ms_n, ms_i, ms_l, ms_p, PM, q2, eN]
            rw [if_neg (by omega)]
            exact stop 4 σ2 (by omega) hk3 hqq (fun h => absurd h c1) f2 q2
        | succ m ih =>
          intro k hk hk2 hk3 hqq σ2 f2 q2
          have hF2 := hF1.fr f2 rfl
          have eN : σ2 146 3 = (N : Int) := (f2 146 3 rfl).trans hT1.1
          by_cases c1 : s + k < N
          · have et : σ2 147 (s + k) = t (s + k) := (f2 147 _ rfl).trans (hT1.2.2 (s + k) c1).1
            have w0 : Unit → w32 (((s + k : Nat) : Int) - (s : Int)) = (k : Int) := fun _ => by rw [w32_small (by omega) (by omega)]; omega
            have w1 : Unit → w32 (((s + k : Nat) : Int) + 1) = ((s + (k + 1) : Nat) : Int) := fun _ => by rw [w32_small (by omega) (by omega)]; omega
            have nv := numV_le (t := t) (s := s) k (by omega) (fun j hj => hqq _ (by omega) (by omega))
            have nt := (hT1.2.2 (s + k) c1).2
            have w2 : Unit → w32 (w32 (w32 (10 * numV t s k) + t (s + k)) - 48) = numV t s (k + 1) := fun _ => by
              rw [w32_small (x := 10 * numV t s k) (by omega) (by omega), w32_small (x := 10 * numV t s k + t (s + k)) (by omega) (by omega), w32_small (by omega) (by omega), numV_s]
            refine At.blk rfl rfl rfl fun sx => ?_
            simp (decide := true) only [RR, ms_app, toList_some, toList_none, if_true, if_false, true_and, and_true, cond_true, sm0, sm1, sm1l, sm2, lc_lt, lc_gt, lc_eq, Int.toNat_natCast, Int.reduceToNat, Nat.reduceAdd, Nat.reduceEqDiff, Int.reduceLT, Int.reduceEq, Int.reduceNeg, Int.reduceAdd, Int.reduceMul, Nat.reduceMul, ms_n, ms_i, ms_l, ms_p, PM, fxM hF2, q2, eN, et]
            rw [if_pos (by omega)]
            refine ⟨⟨by omega, by omega⟩, ?_⟩
            refine cal_of rfl (m_isDigit (fun h => ?_) (fun h => ?_))
            · simp (decide := true) only [RR, ms_app, toList_some, toList_none, if_true, if_false, true_and, and_true, cond_true, sm0, sm1, sm1l, sm2, lc_lt, lc_gt, lc_eq, Int.toNat_natCast, Int.reduceToNat, Nat.reduceAdd, Nat.reduceEqDiff, Int.reduceLT, Int.reduceEq, Int.reduceNeg, Int.reduceAdd, Int.reduceMul, Nat.reduceMul, ms_n, ms_i, ms_l, ms_p, PM, q2, w0 ()]
              rw [if_neg (by omega)]
              refine At.blk rfl rfl rfl fun sx => ?_
              simp (decide := true) only [RR, ms_app, toList_some, toList_none, if_true, if_false, true_and, and_true, cond_true, sm0, sm1, sm1l, sm2, lc_lt, lc_gt, lc_eq, Int.toNat_natCast, Int.reduceToNat, Nat.reduceAdd, Nat.reduceEqDiff, Int.reduceLT, Int.reduceEq, Int.reduceNeg, Int.reduceAdd, Int.reduceMul, Nat.reduceMul, ms_n, ms_i, ms_l, ms_p, PM, fxM hF2, q2, et, w2 (), w1 ()]
              refine ⟨⟨by omega, by omega⟩, ?_⟩
              refine ih (k + 1) (by omega) (by omega) (by omega) (fun j h2 h3 => ?_) _ (f2.set rfl) rfl
              by_cases e : j = s + k
              · rw [e]; exact h
              · exact hqq j h2 (by omega)
            · simp (decide := true) only [RR, ms_app, toList_some, toList_none, if_true, if_false, true_and, and_true, cond_true, sm0, sm1, sm1l, sm2, lc_lt, lc_gt, lc_eq, Int.toNat_natCast, Int.reduceToNat, Nat.reduceAdd, Nat.reduceEqDiff, Int.reduceLT, Int.reduceEq, Int.reduceNeg, Int.reduceAdd, Int.reduceMul, Nat.reduceMul, ms_n, ms_i, ms_l, ms_p, PM]
              exact stop k σ2 (by omega) hk3 hqq (fun _ => h) f2 q2
          · refine At.blk rfl rfl rfl fun sx => ?_
            simp (decide := true) only [RR, ms_app, toList_some, toList_none, if_true, if_false, true_and, and_true, cond_true, sm0, sm1, sm1l, sm2, lc_lt, lc_gt, lc_eq, Int.toNat_natCast, Int.reduceToNat, Nat.reduceAdd, Nat.reduceEqDiff, Int.reduceLT, Int.reduceEq, Int.reduceNeg, Int.reduceAdd, Int.reduceMul, Nat.reduceMul, ms_n, ms_i, ms_l, ms_p, PM, q2, eN]
            rw [if_neg (by omega)]
            exact stop k σ2 (by omega) hk3 hqq (fun h => absurd h c1) f2 q2
      exact scan 4 0 rfl (by omega) (by omega) (fun j a b => absurd b (by omega)) σ1 Fr.same a1
  · simp (decide := true) only [RR, ms_app, toList_some, toList_none, if_true, if_false, true_and, and_true, cond_true, sm0, sm1, sm1l, sm2, lc_lt, lc_gt, lc_eq, Int.toNat_natCast, Int.reduceToNat, Nat.reduceAdd, Nat.reduceEqDiff, Int.reduceLT, Int.reduceEq, Int.reduceNeg, Int.reduceAdd, Int.reduceMul, Nat.reduceMul, ms_n, ms_i, ms_l, ms_p, PM]
    exact no (fun e h => hl (by unfold chr0; rw [if_pos h.2.1]; exact h.2.2.1))
end
