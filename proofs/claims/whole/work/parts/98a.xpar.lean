/-! the class's sums: what they code, and that the model goes along -/
def xqL : List Nat := [16]
def xqT : List (Nat × Nat) := [(20, 1), (20, 2), (20, 3), (20, 4), (20, 5), (19, 2), (19, 3), (15, 3)]
def ApX (L : Nat) (σ σ' : mM) (cs : List Int) : Prop := σ' 15 3 = ((L + cs.length : Nat) : Int) ∧ ((∀ k, k < L → σ' 16 k = σ 16 k) ∧ σ' 19 2 = σ 19 2 ∧ σ' 19 3 = σ 19 3) ∧ ∀ (j : Nat) (h : j < cs.length), StepR (σ' 16 (L + j)) cs[j]
theorem ApX.nil {L : Nat} {σ σ' : mM} (h : σ 15 3 = (L : Int)) (f : Fr [] tkL σ σ') : ApX L σ σ' [] := ⟨(f 15 3 rfl).trans h, ⟨fun k _ => f 16 k rfl, f 19 2 rfl, f 19 3 rfl⟩, fun j h => absurd h (Nat.not_lt_zero j)⟩
theorem ApX.trans {L : Nat} {σ σ1 σ2 : mM} {a b : List Int} (h : ApX L σ σ1 a) (h2 : ApX (L + a.length) σ1 σ2 b) : ApX L σ σ2 (a ++ b) := by
  refine ⟨by rw [h2.1, List.length_append, Nat.add_assoc], ⟨fun k hk => (h2.2.1.1 k (by omega)).trans (h.2.1.1 k hk), h2.2.1.2.1.trans h.2.1.2.1, h2.2.1.2.2.trans h.2.1.2.2⟩, fun j hj => ?_⟩
  by_cases c : j < a.length
  · rw [h2.2.1.1 _ (by omega), List.getElem_append_left c]
    exact h.2.2 j c
  · rw [List.length_append] at hj
    rw [List.getElem_append_right (by omega)]
    have := h2.2.2 (j - a.length) (by omega)
    rw [show L + a.length + (j - a.length) = L + j by omega] at this
    exact this
theorem ApX.mv {L : Nat} {σ σ1 σ2 : mM} {a : List Int} (h : ApX L σ σ1 a) (f : Fr [] tkL σ1 σ2) : ApX L σ σ2 a := by
  have := h.trans (ApX.nil h.1 f)
  rw [List.append_nil] at this
  exact this
def TyS (b : Bool) (h : Nat) (cs : List Int) : Prop := ∀ ts : List Bool, ts.length + h ≤ 64 → tys cs ts = some (b :: ts)
theorem tys_app {a b : List Int} {ts : List Bool} : tys (a ++ b) ts = (tys a ts).bind (tys b) := by
  induction a generalizing ts with
  | nil => rfl
  | cons c a ih =>
    show (tyC c ts).bind (tys (a ++ b)) = ((tyC c ts).bind (tys a)).bind (tys b)
    cases tyC c ts with
    | none => rfl
    | some x => exact ih
theorem TyS.mono {b : Bool} {h h' : Nat} {cs : List Int} (hy : TyS b h cs) (hl : h ≤ h') : TyS b h' cs := fun ts ht => hy ts (by omega)
theorem TyS.two {b c : Bool} {h : Nat} {x y : List Int} {v : Int} (hx : TyS b h x) (hy : TyS b h y) (hv : ∀ ts : List Bool, tyC v (b :: b :: ts) = some (c :: ts)) : TyS c (h + 1) (x ++ y ++ [v]) := by
  intro ts ht
  rw [tys_app, tys_app, hx ts (by omega)]
  show (tys y (b :: ts)).bind (tys [v]) = _
  rw [hy (b :: ts) (by simp only [List.length_cons]; omega)]
  show (tyC v (b :: b :: ts)).bind (tys []) = _
  rw [hv]; rfl
theorem TyS.one {b c : Bool} {h : Nat} {x : List Int} {v : Int} (hx : TyS b h x) (hv : ∀ ts : List Bool, tyC v (b :: ts) = some (c :: ts)) : TyS c h (x ++ [v]) := by
  intro ts ht
  rw [tys_app, hx ts ht]
  show (tyC v (b :: ts)).bind (tys []) = _
  rw [hv]; rfl
theorem TyS.val {c : Int} {h : Nat} (hc : (1000 ≤ c ∧ c ≤ 10999) ∨ (40 ≤ c ∧ c ≤ 48)) (hh : 1 ≤ h) : TyS false h [c] := by
  intro ts ht
  show (tyC c ts).bind (tys []) = _
  have : tyC c ts = some (false :: ts) := by
    unfold tyC
    rcases hc with hc | hc
    · rw [if_pos hc.1, if_pos ⟨hc.2, by omega⟩]
    · rw [if_neg (by omega), if_neg (by omega), if_pos hc.1, if_pos ⟨hc.2, by omega⟩]
  rw [this]; rfl
theorem tyC_op {v : Int} (hv : 1 ≤ v ∧ v ≤ 6) (ts : List Bool) : tyC v (false :: false :: ts) = some (false :: ts) := by
  unfold tyC
  rw [if_neg (by omega), if_neg (by omega), if_neg (by omega), if_neg (by omega), if_neg (by omega), if_pos hv]
  simp [ty2]
def CdS (tk : Int) (cs : List Int) : Prop := ∀ c ∈ cs, (1000 ≤ c ∧ c ≤ 10999) ∨ ((40 ≤ c ∧ c ≤ 48) ∧ alw tk (c - 40).toNat) ∨ (1 ≤ c ∧ c ≤ 6) ∨ (tk = 2 ∧ c = 60)
theorem CdS.app {tk : Int} {a b : List Int} (ha : CdS tk a) (hb : CdS tk b) : CdS tk (a ++ b) := fun c hc => by
  rcases List.mem_append.mp hc with h | h
  · exact ha c h
  · exact hb c h
def SFok (N : Nat) (t : Nat → Int) (tk : Int) (o s : Nat) (g : Bool) (s' : Nat) (g' : Bool) (cs : List Int) : Prop := ∀ (d : Nat) (was : Int) (K : Option mV → mM → Prop) (σ : mM) (rc up dn : List Int), QT σ N t tk s g rc up dn o → (∀ σ', QT σ' N t tk s' g' (cs.reverse ++ rc) up dn o → Fr fqL fqT σ σ' → QE d was K σ') → QA d was K σ
def SFno (N : Nat) (t : Nat → Int) (tk : Int) (o s : Nat) (g : Bool) (k p : Int) : Prop := k ≠ 0 ∧ ∀ (d : Nat) (was : Int) (K : Option mV → mM → Prop) (σ : mM) (rc up dn : List Int), QT σ N t tk s g rc up dn o → QB d was K σ k p → QA d was K σ
def cxP (up dn : List Int) : Prop := ((up ++ dn).headD 0 ≠ 3 ∧ (up ++ dn).headD 0 ≠ 4) ∧ ∀ x l, up = x :: l → x < 60
def cxS (up dn : List Int) : Prop := ¬(1 ≤ (up ++ dn).headD 0 ∧ (up ++ dn).headD 0 ≤ 4) ∧ ∀ x l, up = x :: l → x < 60
def SPok (N : Nat) (t : Nat → Int) (tk : Int) (o s : Nat) (g : Bool) (s' : Nat) (g' : Bool) (cs : List Int) : Prop := ∀ (d : Nat) (was : Int) (K : Option mV → mM → Prop) (σ : mM) (rc up dn : List Int), QT σ N t tk s g rc up dn o → cxP up dn → (∀ σ' rc' p, QT σ' N t tk s' g' rc' (p ++ up) dn o → p.reverse ++ rc' = cs.reverse ++ rc → (∀ y ∈ p, y = 3 ∨ y = 4) → Fr fqL fqT σ σ' → QG d was K σ') → QA d was K σ
def SPno (N : Nat) (t : Nat → Int) (tk : Int) (o s : Nat) (g : Bool) (k p : Int) : Prop := k ≠ 0 ∧ ∀ (d : Nat) (was : Int) (K : Option mV → mM → Prop) (σ : mM) (rc up dn : List Int), QT σ N t tk s g rc up dn o → cxP up dn → QB d was K σ k p → QA d was K σ
def SSok (N : Nat) (t : Nat → Int) (tk : Int) (o s : Nat) (g : Bool) (s' : Nat) (g' : Bool) (cs : List Int) : Prop := ∀ (d : Nat) (was : Int) (K : Option mV → mM → Prop) (σ : mM) (rc up dn : List Int), QT σ N t tk s g rc up dn o → cxS up dn → (∀ σ' rc' p, QT σ' N t tk s' g' rc' (p ++ up) dn o → p.reverse ++ rc' = cs.reverse ++ rc → (∀ y ∈ p, 1 ≤ y ∧ y ≤ 4) → Fr fqL fqT σ σ' → QG d was K σ') → QA d was K σ
def SSno (N : Nat) (t : Nat → Int) (tk : Int) (o s : Nat) (g : Bool) (k p : Int) : Prop := k ≠ 0 ∧ ∀ (d : Nat) (was : Int) (K : Option mV → mM → Prop) (σ : mM) (rc up dn : List Int), QT σ N t tk s g rc up dn o → cxS up dn → QB d was K σ k p → QA d was K σ
/-- the contract of a nonterminal of the class -/
def XSp (y dd : Nat) (N : Nat) (t : Nat → Int) (sc : Int) (o : Nat) (A : Nat → Bool → Nat → Bool → List Int → Prop) (B : Nat → Bool → Int → Int → Prop) : Prop :=
  ∀ (D : Nat) (σ : mM) (K : Option mV → mM → Prop) (s : Nat) (g : Bool) (L : Nat), dd ≤ D → Fix σ → TxX σ N t → TX σ N t s g → σ 15 3 = (L : Int) → L + N ≤ 1600 + s → σ 19 5 = sc →
    (∀ σ' s' g' cs, Fr xqL xqT σ σ' → TX σ' N t s' g' → s < s' → cs.length ≤ s' - s → ApX L σ σ' cs → A s g s' g' cs → K (some (.inl 1)) σ') →
    (∀ σ' k p, Fr xqL xqT σ σ' → σ' 19 2 = k → σ' 19 3 = p → B s g k p → K (some (.inl 0)) σ') → Mt D y [.inr (.inr 19), .inl (o : Int)] σ K
def AF (N : Nat) (t : Nat → Int) (tk : Int) (o : Nat) (s : Nat) (g : Bool) (s' : Nat) (g' : Bool) (cs : List Int) : Prop := TyS false (19 - 3 * o) cs ∧ CdS tk cs ∧ SFok N t tk o s g s' g' cs
def AP (N : Nat) (t : Nat → Int) (tk : Int) (o : Nat) (s : Nat) (g : Bool) (s' : Nat) (g' : Bool) (cs : List Int) : Prop := TyS false (20 - 3 * o) cs ∧ CdS tk cs ∧ SPok N t tk o s g s' g' cs ∧ ¬IsSg N t s' 42 ∧ ¬IsSg N t s' 47
def AS (N : Nat) (t : Nat → Int) (tk : Int) (o : Nat) (s : Nat) (g : Bool) (s' : Nat) (g' : Bool) (cs : List Int) : Prop := TyS false (21 - 3 * o) cs ∧ CdS tk cs ∧ SSok N t tk o s g s' g' cs ∧ noOp N t s'
def dS (o : Nat) : Nat := 10 + 4 * (7 - o)
def dP (o : Nat) : Nat := 9 + 4 * (7 - o)
def dF (o : Nat) : Nat := 8 + 4 * (7 - o)
def XF (N : Nat) (t : Nat → Int) (sc tk : Int) (o : Nat) : Prop := XSp 58 (dF o) N t sc o (AF N t tk o) (SFno N t tk o)
def XP (N : Nat) (t : Nat → Int) (sc tk : Int) (o : Nat) : Prop := XSp 57 (dP o) N t sc o (AP N t tk o) (SPno N t tk o)
def XS (N : Nat) (t : Nat → Int) (sc tk : Int) (o : Nat) : Prop := XSp 56 (dS o) N t sc o (AS N t tk o) (SSno N t tk o)
section
variable {d : Nat} {σ σ0 : mM} {K : Option mV → mM → Prop} {N : Nat} {t : Nat → Int} {s : Nat} {g : Bool} {sc tk : Int} {o L : Nat}
theorem x_addStep {u v x : Int} (hF : Fix σ) (hL : σ 15 3 = (L : Int)) (hL2 : L < 1603) (hx : i_or (i_shl v 5) u = x) (hK : K none (mj_set (mj_set σ 16 L x) 15 3 ((L + 1 : Nat) : Int))) : Mt (d + 1) 68 [.inr (.inr 15), .inl u, .inl v] σ K := by
  refine Mt.go (lv := [some (.inr (.inr 15)), some (.inl u), some (.inl v)]) rfl rfl rfl ?_
  have w1 : Unit → w32 ((L : Int) + 1) = ((L + 1 : Nat) : Int) := fun _ => by rw [w32_small (by omega) (by omega)]; omega
  refine At.blk rfl rfl rfl fun sx => ?_
  simp (decide := true) only [RR, ms_app, toList_some, toList_none, if_true, if_false, true_and, and_true, cond_true, sm0, sm1, sm1l, sm2, lc_lt, lc_gt, lc_eq, Int.toNat_natCast, Int.reduceToNat, Nat.reduceAdd, Nat.reduceEqDiff, Int.reduceLT, Int.reduceEq, Int.reduceNeg, Int.reduceAdd, Int.reduceMul, Nat.reduceMul, ms_n, ms_i, ms_l, ms_p, PX, fxX hF, hL, hx, w1 ()]
  rw [if_pos (by omega)]
  refine ⟨⟨by omega, by omega⟩, ?_⟩
  refine At.blk rfl rfl rfl fun sx => ?_
  simp (decide := true) only [RR, ms_app, toList_some, toList_none, if_true, if_false, true_and, and_true, cond_true, sm0, sm1, sm1l, sm2, lc_lt, lc_gt, lc_eq, Int.toNat_natCast, Int.reduceToNat, Nat.reduceAdd, Nat.reduceEqDiff, Int.reduceLT, Int.reduceEq, Int.reduceNeg, Int.reduceAdd, Int.reduceMul, Nat.reduceMul, ms_n, ms_i, ms_l, ms_p, PX]
  exact hK
theorem step_op : ∀ u : Nat, u < 32 → i_or (i_shl 0 5) (u : Int) = (u : Int) := by decide +kernel
theorem step_num {v : Int} (h : 0 ≤ v ∧ v ≤ 9999) : i_or (i_shl v 5) 0 = 32 * v := by
  obtain ⟨a, rfl⟩ := Int.eq_ofNat_of_zero_le h.1
  have e := i_shl_nat (a := a) (k := 5) (by decide) (by omega)
  have e2 := i_or_nat (a := a * 2 ^ 5) (b := 0) (by omega) (by omega)
  rw [Nat.or_zero] at e2
  rw [show (5 : Int) = ((5 : Nat) : Int) from rfl, e]
  have e3 : i_or ((a * 2 ^ 5 : Nat) : Int) 0 = ((a * 2 ^ 5 : Nat) : Int) := e2
  rw [e3]; omega
/-- one more code -/
theorem ApX.push {σ1 : mM} {cs : List Int} {x c : Int} (h : ApX L σ σ1 cs) (hs : StepR x c) : ApX L σ (mj_set (mj_set σ1 16 (L + cs.length) x) 15 3 ((L + cs.length + 1 : Nat) : Int)) (cs ++ [c]) := by
  refine h.trans ⟨rfl, ⟨fun k hk => ?_, rfl, rfl⟩, fun j hj => ?_⟩
  · rw [ms_row (by decide), ms_app, if_pos rfl, if_neg (by omega)]
  · simp only [List.length_singleton] at hj
    obtain rfl : j = 0 := by omega
    rw [ms_row (by decide), Nat.add_zero, ms_app, if_pos rfl, if_pos rfl]
    exact hs
theorem x_takeOpening {kd0 : Int} {e0 : Nat} (ho : o ≤ 6) (hF : Fix σ) (hT : TxX σ N t) (hX : TX σ N t s g) (h1 : σ 20 1 = kd0) (h3 : σ 20 3 = (e0 : Int)) (he : e0 ≤ N) (hK : o < 6 → ∀ σ' s', Fr [] tkL σ σ' → Skp N t e0 s' → TX σ' N t s' (decide ((kd0 = 1 ∨ kd0 = 2) ∧ s' = e0)) → K (some (.inl 1)) σ') (h0 : o = 6 → K (some (.inl 0)) (mj_set (mj_set σ 19 2 4) 19 3 (s : Int))) : Mt (d + 3) 60 [.inr (.inr 19), .inl (o : Int)] σ K := by
  refine Mt.go (lv := [some (.inr (.inr 19)), some (.inl (o : Int))]) rfl rfl rfl ?_
  refine At.blk rfl rfl rfl fun sx => ?_
  simp (decide := true) only [RR, ms_app, toList_some, toList_none, if_true, if_false, true_and, and_true, cond_true, sm0, sm1, sm1l, sm2, lc_lt, lc_gt, lc_eq, Int.toNat_natCast, Int.reduceToNat, Nat.reduceAdd, Nat.reduceEqDiff, Int.reduceLT, Int.reduceEq, Int.reduceNeg, Int.reduceAdd, Int.reduceMul, Nat.reduceMul, ms_n, ms_i, ms_l, ms_p, PX, fxX hF, hX.st]
  by_cases c : (o : Int) < 6
  · rw [if_pos c]
    refine At.blk rfl rfl rfl fun sx => ?_
    simp (decide := true) only [RR, ms_app, toList_some, toList_none, if_true, if_false, true_and, and_true, cond_true, sm0, sm1, sm1l, sm2, lc_lt, lc_gt, lc_eq, Int.toNat_natCast, Int.reduceToNat, Nat.reduceAdd, Nat.reduceEqDiff, Int.reduceLT, Int.reduceEq, Int.reduceNeg, Int.reduceAdd, Int.reduceMul, Nat.reduceMul, ms_n, ms_i, ms_l, ms_p, PX, fxX hF]
    refine cal_of rfl (x_next hF hT h1 h3 he (fun σ1 s1 f1 k1 x1 => ?_))
    simp (decide := true) only [RR, ms_app, toList_some, toList_none, if_true, if_false, true_and, and_true, cond_true, sm0, sm1, sm1l, sm2, lc_lt, lc_gt, lc_eq, Int.toNat_natCast, Int.reduceToNat, Nat.reduceAdd, Nat.reduceEqDiff, Int.reduceLT, Int.reduceEq, Int.reduceNeg, Int.reduceAdd, Int.reduceMul, Nat.reduceMul, ms_n, ms_i, ms_l, ms_p, PX]
    exact hK (by omega) σ1 s1 f1 k1 x1
  · rw [if_neg c]
    refine cal_of rfl (x_fail ?_)
    simp (decide := true) only [RR, ms_app, toList_some, toList_none, if_true, if_false, true_and, and_true, cond_true, sm0, sm1, sm1l, sm2, lc_lt, lc_gt, lc_eq, Int.toNat_natCast, Int.reduceToNat, Nat.reduceAdd, Nat.reduceEqDiff, Int.reduceLT, Int.reduceEq, Int.reduceNeg, Int.reduceAdd, Int.reduceMul, Nat.reduceMul, ms_n, ms_i, ms_l, ms_p, PX]
    exact h0 (by omega)
def scR (sc tk : Int) : Prop := (sc = 0 ∧ tk = 0) ∨ (sc = 1 ∧ tk = 0) ∨ (sc = 2 ∧ tk = 1) ∨ (sc = 3 ∧ tk = 2)
def nvw (v sc : Int) : Prop := v ≠ 1 ∧ v ≠ 10 ∧ v ≠ 11 ∧ v ≠ 12 ∧ v ≠ 13 ∧ (v = 14 → sc < 2) ∧ (v = 15 → sc ≠ 3) ∧ (v = 3 → sc ≠ 3) ∧ (v = 4 → sc ≠ 3)
theorem vw_no {v sc tk : Int} {j : Nat} (hsc : scR sc tk) (h : nvw v sc) (hj : j < 9) (ha : alw tk j) : v ≠ (vw j : Int) := by
  obtain ⟨h1, h2, h3, h4, h5, h6, h7, h8, h9⟩ := h
  have k5 : alw tk 5 → 2 ≤ sc := by
    unfold alw; unfold scR at hsc
    rcases hsc with ⟨rfl, rfl⟩ | ⟨rfl, rfl⟩ | ⟨rfl, rfl⟩ | ⟨rfl, rfl⟩ <;> simp
  have k6 : ∀ i : Nat, 6 ≤ i → alw tk i → sc = 3 := by
    intro i hi; unfold alw; unfold scR at hsc
    rcases hsc with ⟨rfl, rfl⟩ | ⟨rfl, rfl⟩ | ⟨rfl, rfl⟩ | ⟨rfl, rfl⟩ <;> simp <;> omega
  rcases (show j = 0 ∨ j = 1 ∨ j = 2 ∨ j = 3 ∨ j = 4 ∨ j = 5 ∨ j = 6 ∨ j = 7 ∨ j = 8 by omega) with rfl | rfl | rfl | rfl | rfl | rfl | rfl | rfl | rfl
  · exact h1
  · exact h2
  · exact h3
  · exact h4
  · exact h5
  · intro e
    have := h6 e
    have := k5 ha
    omega
  · exact fun e => h7 e (k6 6 (by decide) ha)
  · exact fun e => h8 e (k6 7 (by decide) ha)
  · exact fun e => h9 e (k6 8 (by decide) ha)
theorem alw_lo {tk : Int} {j : Nat} (hj : j < 5) : alw tk j := by
  refine Or.inr ?_
  split <;> omega
theorem alw_sc5 {sc tk : Int} (hsc : scR sc tk) (h : 2 ≤ sc) : alw tk 5 := by
  unfold scR at hsc
  rcases hsc with ⟨rfl, rfl⟩ | ⟨rfl, rfl⟩ | ⟨rfl, rfl⟩ | ⟨rfl, rfl⟩
  · omega
  · omega
  · exact Or.inr (by decide)
  · exact Or.inl rfl
theorem alw_sc {sc tk : Int} {j : Nat} (hsc : scR sc tk) (h : sc = 3) : alw tk j := by
  unfold scR at hsc
  rcases hsc with ⟨rfl, rfl⟩ | ⟨rfl, rfl⟩ | ⟨rfl, rfl⟩ | ⟨rfl, rfl⟩
  · omega
  · omega
  · omega
  · exact Or.inl rfl
theorem x_valueStep (hsc : scR sc tk) (hF : Fix σ) (hX : TX σ N t s g) (h5 : σ 19 5 = sc) (h1 : ∀ (j e : Nat), j < 9 → alw tk j → IsWd N t s g e (vw j) → σ 20 1 = 1 → σ 20 3 = (e : Int) → K (some (.inl ((j : Int) + 1))) σ) (h0 : (∀ j, j < 9 → alw tk j → ∀ e, ¬IsWd N t s g e (vw j)) → K (some (.inl (-1))) σ) : Mt (d + 1) 62 [.inr (.inr 19)] σ K := by
  refine Mt.go (lv := [some (.inr (.inr 19))]) rfl rfl rfl ?_
  have no : (∀ j, j < 9 → alw tk j → ∀ e, ¬IsWd N t s g e (vw j)) → At d 62 1 [some (.inr (.inr 19))] [] σ K := by
    intro h
    refine At.blk rfl rfl rfl fun sx => ?_
    simp (decide := true) only [RR, ms_app, toList_some, toList_none, if_true, if_false, true_and, and_true, cond_true, sm0, sm1, sm1l, sm2, lc_lt, lc_gt, lc_eq, Int.toNat_natCast, Int.reduceToNat, Nat.reduceAdd, Nat.reduceEqDiff, Int.reduceLT, Int.reduceEq, Int.reduceNeg, Int.reduceAdd, Int.reduceMul, Nat.reduceMul, ms_n, ms_i, ms_l, ms_p, PX]
    refine At.blk rfl rfl rfl fun sx => ?_
    simp (decide := true) only [RR, ms_app, toList_some, toList_none, if_true, if_false, true_and, and_true, cond_true, sm0, sm1, sm1l, sm2, lc_lt, lc_gt, lc_eq, Int.toNat_natCast, Int.reduceToNat, Nat.reduceAdd, Nat.reduceEqDiff, Int.reduceLT, Int.reduceEq, Int.reduceNeg, Int.reduceAdd, Int.reduceMul, Nat.reduceMul, ms_n, ms_i, ms_l, ms_p, PX]
    refine At.blk rfl rfl rfl fun sx => ?_
    simp (decide := true) only [RR, ms_app, toList_some, toList_none, if_true, if_false, true_and, and_true, cond_true, sm0, sm1, sm1l, sm2, lc_lt, lc_gt, lc_eq, Int.toNat_natCast, Int.reduceToNat, Nat.reduceAdd, Nat.reduceEqDiff, Int.reduceLT, Int.reduceEq, Int.reduceNeg, Int.reduceAdd, Int.reduceMul, Nat.reduceMul, ms_n, ms_i, ms_l, ms_p, PX]
    exact h0 h
  rcases hX.view with ⟨a, q⟩ | ⟨e, a, b, c, r, q, q3, qw⟩ | ⟨e, a, b, c, r, q, q3, qn⟩ | ⟨a, b, c, c2, q, q3⟩ | ⟨a, b, c, q⟩
  · refine At.blk rfl rfl rfl fun sx => ?_
    simp (decide := true) only [RR, ms_app, toList_some, toList_none, if_true, if_false, true_and, and_true, cond_true, sm0, sm1, sm1l, sm2, lc_lt, lc_gt, lc_eq, Int.toNat_natCast, Int.reduceToNat, Nat.reduceAdd, Nat.reduceEqDiff, Int.reduceLT, Int.reduceEq, Int.reduceNeg, Int.reduceAdd, Int.reduceMul, Nat.reduceMul, ms_n, ms_i, ms_l, ms_p, PX, fxX hF, q]
    exact no (fun j _ _ e h => by have := h.2.1; omega)
  · have hn : ∀ j, j < 9 → alw tk j → ∀ e, IsWd N t s g e (vw j) → σ 20 4 = (vw j : Int) := fun j hj _ e2 h2 => (qw.iff (vw_lt j (by omega))).mpr (by rw [r.uniq h2.2.2.2.1]; exact h2.2.2.2.2)
    have hy : ∀ j : Nat, j < 9 → alw tk j → σ 20 4 = (vw j : Int) → K (some (.inl ((j : Int) + 1))) σ := fun j hj ha hv => h1 j e hj ha ⟨a, b, c, r, (qw.iff (vw_lt j (by omega))).mp hv⟩ q q3
    have y0 : σ 20 4 = 1 → K (some (.inl 1)) σ := fun h => hy 0 (by decide) (alw_lo (by decide)) h
    have y1 : σ 20 4 = 10 → K (some (.inl 2)) σ := fun h => hy 1 (by decide) (alw_lo (by decide)) h
    have y2 : σ 20 4 = 11 → K (some (.inl 3)) σ := fun h => hy 2 (by decide) (alw_lo (by decide)) h
    have y3 : σ 20 4 = 12 → K (some (.inl 4)) σ := fun h => hy 3 (by decide) (alw_lo (by decide)) h
    have y4 : σ 20 4 = 13 → K (some (.inl 5)) σ := fun h => hy 4 (by decide) (alw_lo (by decide)) h
    have y5 : σ 20 4 = 14 → 2 ≤ sc → K (some (.inl 6)) σ := fun h h2 => hy 5 (by decide) (alw_sc5 hsc h2) h
    have y6 : σ 20 4 = 15 → sc = 3 → K (some (.inl 7)) σ := fun h h2 => hy 6 (by decide) (alw_sc hsc h2) h
    have y7 : σ 20 4 = 3 → sc = 3 → K (some (.inl 8)) σ := fun h h2 => hy 7 (by decide) (alw_sc hsc h2) h
    have y8 : σ 20 4 = 4 → sc = 3 → K (some (.inl 9)) σ := fun h h2 => hy 8 (by decide) (alw_sc hsc h2) h
    have yn : nvw (σ 20 4) sc → K (some (.inl (-1))) σ := fun h => h0 (fun j hj ha e2 h2 => vw_no hsc h hj ha (hn j hj ha e2 h2))
    refine At.blk rfl rfl rfl fun sx => ?_
    simp (decide := true) only [RR, ms_app, toList_some, toList_none, if_true, if_false, true_and, and_true, cond_true, sm0, sm1, sm1l, sm2, lc_lt, lc_gt, lc_eq, Int.toNat_natCast, Int.reduceToNat, Nat.reduceAdd, Nat.reduceEqDiff, Int.reduceLT, Int.reduceEq, Int.reduceNeg, Int.reduceAdd, Int.reduceMul, Nat.reduceMul, ms_n, ms_i, ms_l, ms_p, PX, fxX hF, q]
    refine At.blk rfl rfl rfl fun sx => ?_
    simp (decide := true) only [RR, ms_app, toList_some, toList_none, if_true, if_false, true_and, and_true, cond_true, sm0, sm1, sm1l, sm2, lc_lt, lc_gt, lc_eq, Int.toNat_natCast, Int.reduceToNat, Nat.reduceAdd, Nat.reduceEqDiff, Int.reduceLT, Int.reduceEq, Int.reduceNeg, Int.reduceAdd, Int.reduceMul, Nat.reduceMul, ms_n, ms_i, ms_l, ms_p, PX]
    by_cases c1 : σ 20 4 = 1
    · rw [if_pos c1]
      refine At.blk rfl rfl rfl fun sx => ?_
      simp (decide := true) only [RR, ms_app, toList_some, toList_none, if_true, if_false, true_and, and_true, cond_true, sm0, sm1, sm1l, sm2, lc_lt, lc_gt, lc_eq, Int.toNat_natCast, Int.reduceToNat, Nat.reduceAdd, Nat.reduceEqDiff, Int.reduceLT, Int.reduceEq, Int.reduceNeg, Int.reduceAdd, Int.reduceMul, Nat.reduceMul, ms_n, ms_i, ms_l, ms_p, PX]
      exact y0 c1
    · rw [if_neg c1]
      by_cases c2 : σ 20 4 = 2
      · rw [if_pos c2]
        refine At.blk rfl rfl rfl fun sx => ?_
        simp (decide := true) only [RR, ms_app, toList_some, toList_none, if_true, if_false, true_and, and_true, cond_true, sm0, sm1, sm1l, sm2, lc_lt, lc_gt, lc_eq, Int.toNat_natCast, Int.reduceToNat, Nat.reduceAdd, Nat.reduceEqDiff, Int.reduceLT, Int.reduceEq, Int.reduceNeg, Int.reduceAdd, Int.reduceMul, Nat.reduceMul, ms_n, ms_i, ms_l, ms_p, PX]
        exact yn ⟨by omega, by omega, by omega, by omega, by omega, by omega, by omega, by omega, by omega⟩
      · rw [if_neg c2]
        by_cases c3 : σ 20 4 = 3
        · rw [if_pos c3]
          refine At.blk rfl rfl rfl fun sx => ?_
          simp (decide := true) only [RR, ms_app, toList_some, toList_none, if_true, if_false, true_and, and_true, cond_true, sm0, sm1, sm1l, sm2, lc_lt, lc_gt, lc_eq, Int.toNat_natCast, Int.reduceToNat, Nat.reduceAdd, Nat.reduceEqDiff, Int.reduceLT, Int.reduceEq, Int.reduceNeg, Int.reduceAdd, Int.reduceMul, Nat.reduceMul, ms_n, ms_i, ms_l, ms_p, PX, h5]
          by_cases k : sc = 3
          · rw [if_pos k]
            refine At.blk rfl rfl rfl fun sx => ?_
            simp (decide := true) only [RR, ms_app, toList_some, toList_none, if_true, if_false, true_and, and_true, cond_true, sm0, sm1, sm1l, sm2, lc_lt, lc_gt, lc_eq, Int.toNat_natCast, Int.reduceToNat, Nat.reduceAdd, Nat.reduceEqDiff, Int.reduceLT, Int.reduceEq, Int.reduceNeg, Int.reduceAdd, Int.reduceMul, Nat.reduceMul, ms_n, ms_i, ms_l, ms_p, PX]
            exact y7 c3 k
          · rw [if_neg k]
            refine At.blk rfl rfl rfl fun sx => ?_
            simp (decide := true) only [RR, ms_app, toList_some, toList_none, if_true, if_false, true_and, and_true, cond_true, sm0, sm1, sm1l, sm2, lc_lt, lc_gt, lc_eq, Int.toNat_natCast, Int.reduceToNat, Nat.reduceAdd, Nat.reduceEqDiff, Int.reduceLT, Int.reduceEq, Int.reduceNeg, Int.reduceAdd, Int.reduceMul, Nat.reduceMul, ms_n, ms_i, ms_l, ms_p, PX]
            refine At.blk rfl rfl rfl fun sx => ?_
            simp (decide := true) only [RR, ms_app, toList_some, toList_none, if_true, if_false, true_and, and_true, cond_true, sm0, sm1, sm1l, sm2, lc_lt, lc_gt, lc_eq, Int.toNat_natCast, Int.reduceToNat, Nat.reduceAdd, Nat.reduceEqDiff, Int.reduceLT, Int.reduceEq, Int.reduceNeg, Int.reduceAdd, Int.reduceMul, Nat.reduceMul, ms_n, ms_i, ms_l, ms_p, PX]
            exact yn ⟨by omega, by omega, by omega, by omega, by omega, by omega, by omega, by omega, by omega⟩
        · rw [if_neg c3]
          by_cases c4 : σ 20 4 = 4
          · rw [if_pos c4]
            refine At.blk rfl rfl rfl fun sx => ?_
            simp (decide := true) only [RR, ms_app, toList_some, toList_none, if_true, if_false, true_and, and_true, cond_true, sm0, sm1, sm1l, sm2, lc_lt, lc_gt, lc_eq, Int.toNat_natCast, Int.reduceToNat, Nat.reduceAdd, Nat.reduceEqDiff, Int.reduceLT, Int.reduceEq, Int.reduceNeg, Int.reduceAdd, Int.reduceMul, Nat.reduceMul, ms_n, ms_i, ms_l, ms_p, PX, h5]
            by_cases k : sc = 3
            · rw [if_pos k]
              refine At.blk rfl rfl rfl fun sx => ?_
              simp (decide := true) only [RR, ms_app, toList_some, toList_none, if_true, if_false, true_and, and_true, cond_true, sm0, sm1, sm1l, sm2, lc_lt, lc_gt, lc_eq, Int.toNat_natCast, Int.reduceToNat, Nat.reduceAdd, Nat.reduceEqDiff, Int.reduceLT, Int.reduceEq, Int.reduceNeg, Int.reduceAdd, Int.reduceMul, Nat.reduceMul, ms_n, ms_i, ms_l, ms_p, PX]
              exact y8 c4 k
            · rw [if_neg k]
              refine At.blk rfl rfl rfl fun sx => ?_
              simp (decide := true) only [RR, ms_app, toList_some, toList_none, if_true, if_false, true_and, and_true, cond_true, sm0, sm1, sm1l, sm2, lc_lt, lc_gt, lc_eq, Int.toNat_natCast, Int.reduceToNat, Nat.reduceAdd, Nat.reduceEqDiff, Int.reduceLT, Int.reduceEq, Int.reduceNeg, Int.reduceAdd, Int.reduceMul, Nat.reduceMul, ms_n, ms_i, ms_l, ms_p, PX]
              refine At.blk rfl rfl rfl fun sx => ?_
              simp (decide := true) only [RR, ms_app, toList_some, toList_none, if_true, if_false, true_and, and_true, cond_true, sm0, sm1, sm1l, sm2, lc_lt, lc_gt, lc_eq, Int.toNat_natCast, Int.reduceToNat, Nat.reduceAdd, Nat.reduceEqDiff, Int.reduceLT, Int.reduceEq, Int.reduceNeg, Int.reduceAdd, Int.reduceMul, Nat.reduceMul, ms_n, ms_i, ms_l, ms_p, PX]
              exact yn ⟨by omega, by omega, by omega, by omega, by omega, by omega, by omega, by omega, by omega⟩
          · rw [if_neg c4]
            by_cases c5 : σ 20 4 = 5
            · rw [if_pos c5]
              refine At.blk rfl rfl rfl fun sx => ?_
              simp (decide := true) only [RR, ms_app, toList_some, toList_none, if_true, if_false, true_and, and_true, cond_true, sm0, sm1, sm1l, sm2, lc_lt, lc_gt, lc_eq, Int.toNat_natCast, Int.reduceToNat, Nat.reduceAdd, Nat.reduceEqDiff, Int.reduceLT, Int.reduceEq, Int.reduceNeg, Int.reduceAdd, Int.reduceMul, Nat.reduceMul, ms_n, ms_i, ms_l, ms_p, PX]
              exact yn ⟨by omega, by omega, by omega, by omega, by omega, by omega, by omega, by omega, by omega⟩
            · rw [if_neg c5]
              by_cases c6 : σ 20 4 = 6
              · rw [if_pos c6]
                refine At.blk rfl rfl rfl fun sx => ?_
                simp (decide := true) only [RR, ms_app, toList_some, toList_none, if_true, if_false, true_and, and_true, cond_true, sm0, sm1, sm1l, sm2, lc_lt, lc_gt, lc_eq, Int.toNat_natCast, Int.reduceToNat, Nat.reduceAdd, Nat.reduceEqDiff, Int.reduceLT, Int.reduceEq, Int.reduceNeg, Int.reduceAdd, Int.reduceMul, Nat.reduceMul, ms_n, ms_i, ms_l, ms_p, PX]
                exact yn ⟨by omega, by omega, by omega, by omega, by omega, by omega, by omega, by omega, by omega⟩
              · rw [if_neg c6]
                by_cases c7 : σ 20 4 = 7
                · rw [if_pos c7]
                  refine At.blk rfl rfl rfl fun sx => ?_
                  simp (decide := true) only [RR, ms_app, toList_some, toList_none, if_true, if_false, true_and, and_true, cond_true, sm0, sm1, sm1l, sm2, lc_lt, lc_gt, lc_eq, Int.toNat_natCast, Int.reduceToNat, Nat.reduceAdd, Nat.reduceEqDiff, Int.reduceLT, Int.reduceEq, Int.reduceNeg, Int.reduceAdd, Int.reduceMul, Nat.reduceMul, ms_n, ms_i, ms_l, ms_p, PX]
                  exact yn ⟨by omega, by omega, by omega, by omega, by omega, by omega, by omega, by omega, by omega⟩
                · rw [if_neg c7]
                  by_cases c8 : σ 20 4 = 8
                  · rw [if_pos c8]
                    refine At.blk rfl rfl rfl fun sx => ?_
                    simp (decide := true) only [RR, ms_app, toList_some, toList_none, if_true, if_false, true_and, and_true, cond_true, sm0, sm1, sm1l, sm2, lc_lt, lc_gt, lc_eq, Int.toNat_natCast, Int.reduceToNat, Nat.reduceAdd, Nat.reduceEqDiff, Int.reduceLT, Int.reduceEq, Int.reduceNeg, Int.reduceAdd, Int.reduceMul, Nat.reduceMul, ms_n, ms_i, ms_l, ms_p, PX]
                    exact yn ⟨by omega, by omega, by omega, by omega, by omega, by omega, by omega, by omega, by omega⟩
                  · rw [if_neg c8]
                    by_cases c9 : σ 20 4 = 9
                    · rw [if_pos c9]
                      refine At.blk rfl rfl rfl fun sx => ?_
                      simp (decide := true) only [RR, ms_app, toList_some, toList_none, if_true, if_false, true_and, and_true, cond_true, sm0, sm1, sm1l, sm2, lc_lt, lc_gt, lc_eq, Int.toNat_natCast, Int.reduceToNat, Nat.reduceAdd, Nat.reduceEqDiff, Int.reduceLT, Int.reduceEq, Int.reduceNeg, Int.reduceAdd, Int.reduceMul, Nat.reduceMul, ms_n, ms_i, ms_l, ms_p, PX]
                      exact yn ⟨by omega, by omega, by omega, by omega, by omega, by omega, by omega, by omega, by omega⟩
                    · rw [if_neg c9]
                      by_cases c10 : σ 20 4 = 10
                      · rw [if_pos c10]
                        refine At.blk rfl rfl rfl fun sx => ?_
                        simp (decide := true) only [RR, ms_app, toList_some, toList_none, if_true, if_false, true_and, and_true, cond_true, sm0, sm1, sm1l, sm2, lc_lt, lc_gt, lc_eq, Int.toNat_natCast, Int.reduceToNat, Nat.reduceAdd, Nat.reduceEqDiff, Int.reduceLT, Int.reduceEq, Int.reduceNeg, Int.reduceAdd, Int.reduceMul, Nat.reduceMul, ms_n, ms_i, ms_l, ms_p, PX]
                        exact y1 c10
                      · rw [if_neg c10]
                        by_cases c11 : σ 20 4 = 11
                        · rw [if_pos c11]
                          refine At.blk rfl rfl rfl fun sx => ?_
                          simp (decide := true) only [RR, ms_app, toList_some, toList_none, if_true, if_false, true_and, and_true, cond_true, sm0, sm1, sm1l, sm2, lc_lt, lc_gt, lc_eq, Int.toNat_natCast, Int.reduceToNat, Nat.reduceAdd, Nat.reduceEqDiff, Int.reduceLT, Int.reduceEq, Int.reduceNeg, Int.reduceAdd, Int.reduceMul, Nat.reduceMul, ms_n, ms_i, ms_l, ms_p, PX]
                          exact y2 c11
                        · rw [if_neg c11]
                          by_cases c12 : σ 20 4 = 12
                          · rw [if_pos c12]
                            refine At.blk rfl rfl rfl fun sx => ?_
                            simp (decide := true) only [RR, ms_app, toList_some, toList_none, if_true, if_false, true_and, and_true, cond_true, sm0, sm1, sm1l, sm2, lc_lt, lc_gt, lc_eq, Int.toNat_natCast, Int.reduceToNat, Nat.reduceAdd, Nat.reduceEqDiff, Int.reduceLT, Int.reduceEq, Int.reduceNeg, Int.reduceAdd, Int.reduceMul, Nat.reduceMul, ms_n, ms_i, ms_l, ms_p, PX]
                            exact y3 c12
                          · rw [if_neg c12]
                            by_cases c13 : σ 20 4 = 13
                            · rw [if_pos c13]
                              refine At.blk rfl rfl rfl fun sx => ?_
                              simp (decide := true) only [RR, ms_app, toList_some, toList_none, if_true, if_false, true_and, and_true, cond_true, sm0, sm1, sm1l, sm2, lc_lt, lc_gt, lc_eq, Int.toNat_natCast, Int.reduceToNat, Nat.reduceAdd, Nat.reduceEqDiff, Int.reduceLT, Int.reduceEq, Int.reduceNeg, Int.reduceAdd, Int.reduceMul, Nat.reduceMul, ms_n, ms_i, ms_l, ms_p, PX]
                              exact y4 c13
                            · rw [if_neg c13]
                              by_cases c14 : σ 20 4 = 14
                              · rw [if_pos c14]
                                refine At.blk rfl rfl rfl fun sx => ?_
                                simp (decide := true) only [RR, ms_app, toList_some, toList_none, if_true, if_false, true_and, and_true, cond_true, sm0, sm1, sm1l, sm2, lc_lt, lc_gt, lc_eq, Int.toNat_natCast, Int.reduceToNat, Nat.reduceAdd, Nat.reduceEqDiff, Int.reduceLT, Int.reduceEq, Int.reduceNeg, Int.reduceAdd, Int.reduceMul, Nat.reduceMul, ms_n, ms_i, ms_l, ms_p, PX, h5]
                                by_cases k : sc < 2
                                · rw [if_pos k]
                                  refine At.blk rfl rfl rfl fun sx => ?_
                                  simp (decide := true) only [RR, ms_app, toList_some, toList_none, if_true, if_false, true_and, and_true, cond_true, sm0, sm1, sm1l, sm2, lc_lt, lc_gt, lc_eq, Int.toNat_natCast, Int.reduceToNat, Nat.reduceAdd, Nat.reduceEqDiff, Int.reduceLT, Int.reduceEq, Int.reduceNeg, Int.reduceAdd, Int.reduceMul, Nat.reduceMul, ms_n, ms_i, ms_l, ms_p, PX]
                                  refine At.blk rfl rfl rfl fun sx => ?_
                                  simp (decide := true) only [RR, ms_app, toList_some, toList_none, if_true, if_false, true_and, and_true, cond_true, sm0, sm1, sm1l, sm2, lc_lt, lc_gt, lc_eq, Int.toNat_natCast, Int.reduceToNat, Nat.reduceAdd, Nat.reduceEqDiff, Int.reduceLT, Int.reduceEq, Int.reduceNeg, Int.reduceAdd, Int.reduceMul, Nat.reduceMul, ms_n, ms_i, ms_l, ms_p, PX]
                                  exact yn ⟨by omega, by omega, by omega, by omega, by omega, by omega, by omega, by omega, by omega⟩
                                · rw [if_neg k]
                                  refine At.blk rfl rfl rfl fun sx => ?_
                                  simp (decide := true) only [RR, ms_app, toList_some, toList_none, if_true, if_false, true_and, and_true, cond_true, sm0, sm1, sm1l, sm2, lc_lt, lc_gt, lc_eq, Int.toNat_natCast, Int.reduceToNat, Nat.reduceAdd, Nat.reduceEqDiff, Int.reduceLT, Int.reduceEq, Int.reduceNeg, Int.reduceAdd, Int.reduceMul, Nat.reduceMul, ms_n, ms_i, ms_l, ms_p, PX]
                                  exact y5 c14 (by omega)
                              · rw [if_neg c14]
                                by_cases c15 : σ 20 4 = 15
                                · rw [if_pos c15]
                                  refine At.blk rfl rfl rfl fun sx => ?_
                                  simp (decide := true) only [RR, ms_app, toList_some, toList_none, if_true, if_false, true_and, and_true, cond_true, sm0, sm1, sm1l, sm2, lc_lt, lc_gt, lc_eq, Int.toNat_natCast, Int.reduceToNat, Nat.reduceAdd, Nat.reduceEqDiff, Int.reduceLT, Int.reduceEq, Int.reduceNeg, Int.reduceAdd, Int.reduceMul, Nat.reduceMul, ms_n, ms_i, ms_l, ms_p, PX, h5]
                                  by_cases k : sc = 3
                                  · rw [if_pos k]
                                    refine At.blk rfl rfl rfl fun sx => ?_
                                    simp (decide := true) only [RR, ms_app, toList_some, toList_none, if_true, if_false, true_and, and_true, cond_true, sm0, sm1, sm1l, sm2, lc_lt, lc_gt, lc_eq, Int.toNat_natCast, Int.reduceToNat, Nat.reduceAdd, Nat.reduceEqDiff, Int.reduceLT, Int.reduceEq, Int.reduceNeg, Int.reduceAdd, Int.reduceMul, Nat.reduceMul, ms_n, ms_i, ms_l, ms_p, PX]
                                    exact y6 c15 k
                                  · rw [if_neg k]
                                    refine At.blk rfl rfl rfl fun sx => ?_
                                    simp (decide := true) only [RR, ms_app, toList_some, toList_none, if_true, if_false, true_and, and_true, cond_true, sm0, sm1, sm1l, sm2, lc_lt, lc_gt, lc_eq, Int.toNat_natCast, Int.reduceToNat, Nat.reduceAdd, Nat.reduceEqDiff, Int.reduceLT, Int.reduceEq, Int.reduceNeg, Int.reduceAdd, Int.reduceMul, Nat.reduceMul, ms_n, ms_i, ms_l, ms_p, PX]
                                    refine At.blk rfl rfl rfl fun sx => ?_
                                    simp (decide := true) only [RR, ms_app, toList_some, toList_none, if_true, if_false, true_and, and_true, cond_true, sm0, sm1, sm1l, sm2, lc_lt, lc_gt, lc_eq, Int.toNat_natCast, Int.reduceToNat, Nat.reduceAdd, Nat.reduceEqDiff, Int.reduceLT, Int.reduceEq, Int.reduceNeg, Int.reduceAdd, Int.reduceMul, Nat.reduceMul, ms_n, ms_i, ms_l, ms_p, PX]
                                    exact yn ⟨by omega, by omega, by omega, by omega, by omega, by omega, by omega, by omega, by omega⟩
                                · rw [if_neg c15]
                                  refine At.blk rfl rfl rfl fun sx => ?_
                                  simp (decide := true) only [RR, ms_app, toList_some, toList_none, if_true, if_false, true_and, and_true, cond_true, sm0, sm1, sm1l, sm2, lc_lt, lc_gt, lc_eq, Int.toNat_natCast, Int.reduceToNat, Nat.reduceAdd, Nat.reduceEqDiff, Int.reduceLT, Int.reduceEq, Int.reduceNeg, Int.reduceAdd, Int.reduceMul, Nat.reduceMul, ms_n, ms_i, ms_l, ms_p, PX]
                                  exact yn ⟨by omega, by omega, by omega, by omega, by omega, by omega, by omega, by omega, by omega⟩
  · refine At.blk rfl rfl rfl fun sx => ?_
    simp (decide := true) only [RR, ms_app, toList_some, toList_none, if_true, if_false, true_and, and_true, cond_true, sm0, sm1, sm1l, sm2, lc_lt, lc_gt, lc_eq, Int.toNat_natCast, Int.reduceToNat, Nat.reduceAdd, Nat.reduceEqDiff, Int.reduceLT, Int.reduceEq, Int.reduceNeg, Int.reduceAdd, Int.reduceMul, Nat.reduceMul, ms_n, ms_i, ms_l, ms_p, PX, fxX hF, q]
    exact no (fun j _ _ e h => ltr_dgt h.2.2.1 c)
  · refine At.blk rfl rfl rfl fun sx => ?_
    simp (decide := true) only [RR, ms_app, toList_some, toList_none, if_true, if_false, true_and, and_true, cond_true, sm0, sm1, sm1l, sm2, lc_lt, lc_gt, lc_eq, Int.toNat_natCast, Int.reduceToNat, Nat.reduceAdd, Nat.reduceEqDiff, Int.reduceLT, Int.reduceEq, Int.reduceNeg, Int.reduceAdd, Int.reduceMul, Nat.reduceMul, ms_n, ms_i, ms_l, ms_p, PX, fxX hF, q]
    exact no (fun j _ _ e h => c h.2.2.1)
  · refine At.blk rfl rfl rfl fun sx => ?_
    simp (decide := true) only [RR, ms_app, toList_some, toList_none, if_true, if_false, true_and, and_true, cond_true, sm0, sm1, sm1l, sm2, lc_lt, lc_gt, lc_eq, Int.toNat_natCast, Int.reduceToNat, Nat.reduceAdd, Nat.reduceEqDiff, Int.reduceLT, Int.reduceEq, Int.reduceNeg, Int.reduceAdd, Int.reduceMul, Nat.reduceMul, ms_n, ms_i, ms_l, ms_p, PX, fxX hF, q]
    exact no (fun j _ _ e h => by rw [a] at h; exact absurd h.1 (by decide))
end
