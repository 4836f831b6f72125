/-! THINKING: the model tries, and takes back -/
def xrL : List Nat := [22, 23, 24, 25, 26, 27, 35, 36, 37, 38]
def xrT : List (Nat × Nat) := [(21, 4), (34, 2), (34, 3), (34, 4), (33, 7), (33, 8)]
def mrL : List Nat := [183, 184, 185, 186, 187, 188, 190, 191, 192, 216]
def mrT : List (Nat × Nat) := [(146, 95), (146, 46), (146, 54), (146, 55), (146, 56), (146, 62)]
def thL : List Nat := [182, 183, 184, 185, 186, 187, 188, 190, 191, 192, 216]
def thT : List (Nat × Nat) := [(146, 95), (146, 46), (146, 53), (146, 54), (146, 55), (146, 56), (146, 62)]
theorem Wrl.fr {σ σ' : mM} {C : Ct} {w : Sk} {l : Kp} (h : Wrl σ C w l) (f : Fr scrL scrT σ σ') : Wrl σ' C w l := by
  obtain ⟨h1, h2, h3, h4, h5, h6, h7, h8, h9⟩ := h
  exact ⟨h1, h2.cg (f.row 3 rfl) (f.row 6 rfl) (f.row 8 rfl) (f.row 9 rfl) (f.row 10 rfl), h3.cg (f 173 2 rfl) (f 178 2 rfl) (f.row 176 rfl) (f.row 179 rfl) (f.row 180 rfl) (f.row 181 rfl), h4, h5.cg (f.row 28 rfl) (f.row 29 rfl) (f.row 30 rfl), h6.cg (fun k _ => f 182 k rfl) h1.1, h7.cg (f 39 1 rfl) (f.row 40 rfl), h8.cg (f.row 182 rfl), h9⟩
/-- a pair that changes nothing -/
theorem ro_pair {yx ym : Nat} {as : List mV} {σ : mM} {C : Ct} {w : Sk} {l : Kp} {v : Int} (h : Inv σ) (hW : Wrl σ C w l) (hx : Mt 1000 yx (.inr (.inr 0) :: as) σ (fun r σ' => r = some (.inl v) ∧ Fr scrL scrT σ σ')) (hm : ∀ σ1, Inv σ1 → Wrl σ1 C w l → Fr scrL scrT σ σ1 → Mt 1000 ym (.inr (.inr 146) :: as) σ1 (fun r σ' => r = some (.inl v) ∧ Fr scrL scrT σ1 σ')) : PairI Inv yx ym as σ :=
  hx.mono (fun _ σ1 e => ⟨v, e.1, (hm σ1 (h.fr e.2) (hW.fr e.2) e.2).mono (fun _ _ e2 => ⟨e2.1, h.fr (e.2.trans e2.2)⟩)⟩)
theorem SkX.copy {σ : mM} {C : Ct} {w : Sk} (h : SkX σ 28 C w) (n7 : C.1 ≤ 7) : SkX (skyC σ 34 28) 34 C w := by
  obtain ⟨h1, h2, h3, h4⟩ := h
  refine ⟨h1, h2, h3, fun p hp => ?_⟩
  have e1 : skyC σ 34 28 35 p = σ 29 p := by
    unfold skyC; rw [if_pos rfl, if_pos (by omega)]
  have e2 : skyC σ 34 28 36 p = σ 30 p := by
    unfold skyC; rw [if_neg (by decide), if_pos rfl, if_pos (by omega)]
  show skyC σ 34 28 35 p = _ ∧ _ ∧ _ ∧ ActR (skyC σ 34 28 36 p) _
  rw [e1, e2]
  exact h4 p hp
theorem Fr.copy {σ : mM} : Fr [35, 36] [(34, 2), (34, 3), (34, 4)] σ (skyC σ 34 28) := by
  intro q k hn
  unfold skyC
  by_cases c1 : q = 35
  · subst c1
    have : true = false := hn
    cases this
  · rw [if_neg c1]
    by_cases c2 : q = 36
    · subst c2
      have : true = false := hn
      cases this
    · rw [if_neg c2]
      by_cases c3 : q = 34
      · subst c3
        rw [if_pos rfl]
        have n2 : k ≠ 2 := by intro e; subst e; exact absurd hn (by decide)
        have n3 : k ≠ 3 := by intro e; subst e; exact absurd hn (by decide)
        have n4 : k ≠ 4 := by intro e; subst e; exact absurd hn (by decide)
        rw [if_neg n2, if_neg n3, if_neg n4]
      · rw [if_neg c3]
theorem CtX.xr {C : Ct} {σ σ' : mM} (h : CtX σ C) (fr : Fr xrL xrT σ σ') : CtX σ' C := h.cg (fr.row 3 rfl) (fr.row 6 rfl) (fr.row 8 rfl) (fr.row 9 rfl) (fr.row 10 rfl)
theorem SkX.xr {C : Ct} {w : Sk} {σ σ' : mM} (h : SkX σ 28 C w) (fr : Fr xrL xrT σ σ') : SkX σ' 28 C w := h.cg (fr.row 28 rfl) (fr.row 29 rfl) (fr.row 30 rfl)
theorem CtM.th {C : Ct} {σ σ' : mM} (h : CtM σ C) (fr : Fr thL thT σ σ') : CtM σ' C := h.cg (fr 173 2 rfl) (fr 178 2 rfl) (fr.row 176 rfl) (fr.row 179 rfl) (fr.row 180 rfl) (fr.row 181 rfl)
/-- the model thinks: σ is as it was, σ' is now -/
def Th (σ σ' : mM) : Prop := Fr thL thT σ σ' ∧ (∀ k, k < 29 → σ' 183 k = σ 182 k) ∧ (∀ j, 29 ≤ j → σ' 182 j = σ 182 j) ∧ σ' 146 53 = 1
def scrX : Bool := frB mrL mrT scrL scrT && frB xrL xrT scrL scrT
theorem Th.next {σ0 σ σ' : mM} (h : Th σ0 σ) (f : Fr mnL mnT σ σ') (hj : ∀ j, 29 ≤ j → σ' 182 j = σ 182 j) : Th σ0 σ' :=
  ⟨h.1.trans (f.mono rfl), fun k hk => (f 183 k rfl).trans (h.2.1 k hk), fun j h1 => (hj j h1).trans (h.2.2.1 j h1), (f 146 53 rfl).trans h.2.2.2⟩
section
variable {d : Nat} {σ σ0 : mM} {K : Option mV → mM → Prop}
theorem m_putsAside (hF : Fix σ) (hK : ∀ σ', Th σ σ' → (∀ k, σ' 182 k = σ 182 k) → σ' 146 54 = 0 → Fr [183] [(146, 53), (146, 54)] σ σ' → K none σ') : Mt (d + 1) 197 [.inr (.inr 146)] σ K := by
  refine Mt.go (lv := [some (.inr (.inr 146)), none]) rfl rfl rfl ?_
  refine At.blk rfl rfl rfl fun sx => ?_
  simp (decide := true) only [RR, ms_app, toList_some, toList_none, if_true, if_false, true_and, and_true, cond_true, sm0, sm1, sm1l, sm2, lc_lt, lc_gt, lc_eq, Int.toNat_natCast, Int.reduceToNat, Nat.reduceAdd, Nat.reduceEqDiff, Int.reduceLT, Int.reduceEq, Int.reduceNeg, Int.reduceAdd, Int.reduceMul, Nat.reduceMul, ms_n, ms_i, ms_l, ms_p, PM]
  have loop : ∀ m k : Nat, 29 - k = m → k ≤ 29 → ∀ σ', Fr [183] [(146, 53)] σ σ' → σ' 146 53 = 1 → (∀ j, j < k → σ' 183 j = σ 182 j) → At d 197 1 [some (.inr (.inr 146)), some (.inl (k : Int))] [] σ' K := by
    intro m
    induction m with
    | zero =>
      intro k hk hk2 σ' fr e hj
      obtain rfl : k = 29 := by omega
      refine At.blk rfl rfl rfl fun sx => ?_
      simp (decide := true) only [RR, ms_app, toList_some, toList_none, if_true, if_false, true_and, and_true, cond_true, sm0, sm1, sm1l, sm2, lc_lt, lc_gt, lc_eq, Int.toNat_natCast, Int.reduceToNat, Nat.reduceAdd, Nat.reduceEqDiff, Int.reduceLT, Int.reduceEq, Int.reduceNeg, Int.reduceAdd, Int.reduceMul, Nat.reduceMul, ms_n, ms_i, ms_l, ms_p, PM]
      refine At.blk rfl rfl rfl fun sx => ?_
      simp (decide := true) only [RR, ms_app, toList_some, toList_none, if_true, if_false, true_and, and_true, cond_true, sm0, sm1, sm1l, sm2, lc_lt, lc_gt, lc_eq, Int.toNat_natCast, Int.reduceToNat, Nat.reduceAdd, Nat.reduceEqDiff, Int.reduceLT, Int.reduceEq, Int.reduceNeg, Int.reduceAdd, Int.reduceMul, Nat.reduceMul, ms_n, ms_i, ms_l, ms_p, PM]
      have F : Fr [183] [(146, 53), (146, 54)] σ (mj_set σ' 146 54 0) := (fr.mono rfl).set rfl
      exact hK _ ⟨F.mono rfl, fun j h1 => hj j h1, fun j _ => fr 182 j rfl, e⟩ (fun j => fr 182 j rfl) rfl F
    | succ m ih =>
      intro k hk hk2 σ' fr e hj
      have hF' := hF.fr fr rfl
      have w1 : Unit → w32 ((k : Int) + 1) = ((k + 1 : Nat) : Int) := fun _ => by rw [w32_small (by omega) (by omega)]; omega
      refine At.blk rfl rfl rfl fun sx => ?_
      simp (decide := true) only [RR, ms_app, toList_some, toList_none, if_true, if_false, true_and, and_true, cond_true, sm0, sm1, sm1l, sm2, lc_lt, lc_gt, lc_eq, Int.toNat_natCast, Int.reduceToNat, Nat.reduceAdd, Nat.reduceEqDiff, Int.reduceLT, Int.reduceEq, Int.reduceNeg, Int.reduceAdd, Int.reduceMul, Nat.reduceMul, ms_n, ms_i, ms_l, ms_p, PM, fxM hF', w1 (), fr.row 182 rfl]
      rw [if_pos (by omega)]
      refine ⟨⟨by omega, by omega⟩, ⟨by omega, by omega⟩, ?_⟩
      refine ih (k + 1) (by omega) (by omega) _ (fr.setr rfl) (by rw [ms_row (by decide)]; exact e) (fun j h1 => ?_)
      rw [ms_app, if_pos rfl]
      by_cases e2 : j = k
      · rw [if_pos e2, e2]
      · rw [if_neg e2]; exact hj j (by omega)
  exact loop 29 0 rfl (by omega) _ (Fr.same.set rfl) rfl (fun j h => by omega)
theorem m_triesAnew (hF : Fix σ) (hT : Th σ0 σ) (hK : ∀ σ', Fr [182] [(146, 54)] σ σ' → (∀ k, σ' 182 k = σ0 182 k) → σ' 146 54 = 0 → K none σ') : Mt (d + 1) 198 [.inr (.inr 146)] σ K := by
  refine Mt.go (lv := [some (.inr (.inr 146)), none]) rfl rfl rfl ?_
  refine At.blk rfl rfl rfl fun sx => ?_
  simp (decide := true) only [RR, ms_app, toList_some, toList_none, if_true, if_false, true_and, and_true, cond_true, sm0, sm1, sm1l, sm2, lc_lt, lc_gt, lc_eq, Int.toNat_natCast, Int.reduceToNat, Nat.reduceAdd, Nat.reduceEqDiff, Int.reduceLT, Int.reduceEq, Int.reduceNeg, Int.reduceAdd, Int.reduceMul, Nat.reduceMul, ms_n, ms_i, ms_l, ms_p, PM]
  have loop : ∀ m k : Nat, 29 - k = m → k ≤ 29 → ∀ σ', Fr [182] [] σ σ' → (∀ j, j < k → σ' 182 j = σ0 182 j) → (∀ j, 29 ≤ j → σ' 182 j = σ0 182 j) → At d 198 1 [some (.inr (.inr 146)), some (.inl (k : Int))] [] σ' K := by
    intro m
    induction m with
    | zero =>
      intro k hk hk2 σ' fr h1 h2
      obtain rfl : k = 29 := by omega
      refine At.blk rfl rfl rfl fun sx => ?_
      simp (decide := true) only [RR, ms_app, toList_some, toList_none, if_true, if_false, true_and, and_true, cond_true, sm0, sm1, sm1l, sm2, lc_lt, lc_gt, lc_eq, Int.toNat_natCast, Int.reduceToNat, Nat.reduceAdd, Nat.reduceEqDiff, Int.reduceLT, Int.reduceEq, Int.reduceNeg, Int.reduceAdd, Int.reduceMul, Nat.reduceMul, ms_n, ms_i, ms_l, ms_p, PM]
      refine At.blk rfl rfl rfl fun sx => ?_
      simp (decide := true) only [RR, ms_app, toList_some, toList_none, if_true, if_false, true_and, and_true, cond_true, sm0, sm1, sm1l, sm2, lc_lt, lc_gt, lc_eq, Int.toNat_natCast, Int.reduceToNat, Nat.reduceAdd, Nat.reduceEqDiff, Int.reduceLT, Int.reduceEq, Int.reduceNeg, Int.reduceAdd, Int.reduceMul, Nat.reduceMul, ms_n, ms_i, ms_l, ms_p, PM]
      refine hK _ ((fr.mono rfl).set rfl) (fun j => ?_) rfl
      rw [ms_row (by decide)]
      by_cases e : j < 29
      · exact h1 j e
      · exact h2 j (by omega)
    | succ m ih =>
      intro k hk hk2 σ' fr h1 h2
      have hF' := hF.fr fr rfl
      have w1 : Unit → w32 ((k : Int) + 1) = ((k + 1 : Nat) : Int) := fun _ => by rw [w32_small (by omega) (by omega)]; omega
      have e3 : σ' 183 k = σ0 182 k := (fr 183 k rfl).trans (hT.2.1 k (by omega))
      refine At.blk rfl rfl rfl fun sx => ?_
      simp (decide := true) only [RR, ms_app, toList_some, toList_none, if_true, if_false, true_and, and_true, cond_true, sm0, sm1, sm1l, sm2, lc_lt, lc_gt, lc_eq, Int.toNat_natCast, Int.reduceToNat, Nat.reduceAdd, Nat.reduceEqDiff, Int.reduceLT, Int.reduceEq, Int.reduceNeg, Int.reduceAdd, Int.reduceMul, Nat.reduceMul, ms_n, ms_i, ms_l, ms_p, PM, fxM hF', w1 (), e3]
      rw [if_pos (by omega)]
      refine ⟨⟨by omega, by omega⟩, ⟨by omega, by omega⟩, ?_⟩
      refine ih (k + 1) (by omega) (by omega) _ (fr.setr rfl) (fun j h3 => ?_) (fun j h3 => ?_)
      · rw [ms_app, if_pos rfl]
        by_cases e2 : j = k
        · rw [if_pos e2, e2]
        · rw [if_neg e2]; exact h1 j (by omega)
      · rw [ms_app, if_pos rfl, if_neg (by omega)]; exact h2 j h3
  exact loop 29 0 rfl (by omega) σ Fr.same (fun j h => by omega) (fun j h => hT.2.2.1 j h)
theorem Th.again {σ' : mM} (h : Th σ0 σ) (f : Fr [182] [(146, 54)] σ σ') (h2 : ∀ k, σ' 182 k = σ0 182 k) : Th σ0 σ' :=
  ⟨h.1.trans (f.mono rfl), fun k hk => (f 183 k rfl).trans (h.2.1 k hk), fun j _ => h2 j, (f 146 53 rfl).trans h.2.2.2⟩
theorem m_takesBack (hF : Fix σ) (hT : Th σ0 σ) (h0 : σ0 146 53 = 0) (hK : ∀ σ', Fr mrL mrT σ0 σ' → Fr [182] [(146, 53), (146, 54)] σ σ' → K none σ') : Mt (d + 2) 199 [.inr (.inr 146)] σ K := by
  refine Mt.go (lv := [some (.inr (.inr 146))]) rfl rfl rfl ?_
  refine At.blk rfl rfl rfl fun sx => ?_
  simp (decide := true) only [RR, ms_app, toList_some, toList_none, if_true, if_false, true_and, and_true, cond_true, sm0, sm1, sm1l, sm2, lc_lt, lc_gt, lc_eq, Int.toNat_natCast, Int.reduceToNat, Nat.reduceAdd, Nat.reduceEqDiff, Int.reduceLT, Int.reduceEq, Int.reduceNeg, Int.reduceAdd, Int.reduceMul, Nat.reduceMul, ms_n, ms_i, ms_l, ms_p, PM]
  refine cal_of rfl (m_triesAnew hF hT (fun σ1 f1 e1 e2 => ?_))
  simp (decide := true) only [RR, ms_app, toList_some, toList_none, if_true, if_false, true_and, and_true, cond_true, sm0, sm1, sm1l, sm2, lc_lt, lc_gt, lc_eq, Int.toNat_natCast, Int.reduceToNat, Nat.reduceAdd, Nat.reduceEqDiff, Int.reduceLT, Int.reduceEq, Int.reduceNeg, Int.reduceAdd, Int.reduceMul, Nat.reduceMul, ms_n, ms_i, ms_l, ms_p, PM]
  have F : Fr thL thT σ0 σ1 := hT.1.trans (f1.mono rfl)
  refine hK _ (fun q k hn => ?_) ((f1.mono rfl).set rfl)
  rw [ms_app]
  have key : q ≠ 182 → ¬(q = 146 ∧ k = 53) → σ1 q k = σ0 q k := by
    intro n1 n2
    refine F q k ?_
    cases e1 : thL.elem q
    · cases e2 : thT.elem (q, k)
      · rfl
      · have h3 := elem_all2 (P := fun p => mrT.elem p || (p == (146, 53))) (l := thT) rfl e2
        rcases (Bool.or_eq_true _ _).mp h3 with h4 | h4
        · rw [h4, Bool.or_true] at hn; cases hn
        · have h5 : (q, k) = (146, 53) := eq_of_beq h4
          injection h5 with h6 h7
          exact absurd ⟨h6, h7⟩ n2
    · have h3 := elem_all (P := fun x => mrL.elem x || (x == 182)) (l := thL) rfl e1
      rcases (Bool.or_eq_true _ _).mp h3 with h4 | h4
      · rw [h4, Bool.true_or] at hn; cases hn
      · exact absurd (eq_of_beq h4) n1
  by_cases c1 : q = 146
  · rw [if_pos c1]
    by_cases c2 : k = 53
    · rw [if_pos c2, c1, c2]; exact h0.symm
    · rw [if_neg c2]; exact key (by omega) (by omega)
  · rw [if_neg c1]
    by_cases c2 : q = 182
    · rw [c2]; exact e1 k
    · exact key c2 (by omega)
/-- a night while thinking -/
theorem m_goes1 {C : Ct} {w : Sk} (hF : Fix σ) (hC : CtV C) (hw : SkV C w) (hw9 : w.1 ≤ 4000) (hT : Th σ0 σ) (hc : CtM σ0 C) (hs : SkM σ C w)
    (hK : ∀ σ', Th σ0 σ' → SkM σ' C (nxM C w) → Fr mnL mnT σ σ' → K none σ') : Mt (d + 9) 195 [.inr (.inr 146)] σ K :=
  m_nightGoes (th := 1) (l := []) hF hC hw hw9 (hc.th hT.1) hs hT.2.2.2 (Or.inl ⟨rfl, fun _ _ => rfl⟩) (fun σ' f s k _ _ _ => by
    refine hK σ' (hT.next f ?_) s f
    rcases k with ⟨_, k⟩ | ⟨k, _⟩
    · exact k
    · exact absurd k (by decide))
theorem m_nights1 {C : Ct} {w : Sk} {n : Nat} (hF : Fix σ) (hC : CtV C) (hw : SkV C w) (hn : n ≤ 200) (hw9 : w.1 ≤ 1100) (hT : Th σ0 σ) (hc : CtM σ0 C) (hs : SkM σ C w)
    (hK : ∀ σ', Th σ0 σ' → SkM σ' C (ntM C w n) → Fr mnL mnT σ σ' → CtrN σ σ' 54 (rosN C w n) → CtrN σ σ' 55 (rbN C w n) → CtrN σ σ' 56 (rvN C w n) → K none σ') : Mt (d + 10) 196 [.inr (.inr 146), .inl (n : Int)] σ K :=
  m_nightsGo (th := 1) (l := []) hF hC hw hn hw9 (fun h => absurd h (by decide)) (hc.th hT.1) hs hT.2.2.2 (Or.inl ⟨rfl, fun _ _ => rfl⟩) (fun σ' f s k c4 c5 c6 => by
    refine hK σ' (hT.next f ?_) s f c4 c5 c6
    rcases k with ⟨_, k⟩ | ⟨k, _⟩
    · exact k
    · exact absurd k (by decide))
end
theorem SkM.eq {σ σ' : mM} {C : Ct} {w : Sk} (h : SkM σ C w) (e : ∀ k, σ' 182 k = σ 182 k) (n7 : C.1 ≤ 7) : SkM σ' C w := h.cg (fun k _ => e k) n7
