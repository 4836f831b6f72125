/-! a city's text: the model reads it; its draft beside the class's -/
def cmL : List Nat := [175, 177, 214, 215]
def cmT : List (Nat × Nat) := [(146, 2), (146, 4), (146, 5), (146, 6), (146, 34), (146, 44), (146, 46), (146, 89), (146, 91), (146, 92), (146, 93)]
def cyBr : List Nat := [173, 174, 175, 176, 177, 178, 179, 180, 181, 214, 215]
/-- a place of the model's draft -/
def cyQ (q k : Nat) : Prop := (q = 173 ∧ k < 2) ∨ (q = 174 ∧ k < 7) ∨ (q = 176 ∧ k < 7) ∨ (q = 178 ∧ k < 2) ∨ (q = 179 ∧ k < 3) ∨ (q = 180 ∧ k < 3) ∨ (q = 181 ∧ k < 1600)
def cyK (T : List (Nat × Nat)) (μ μ' : mM) : Prop := ∀ q k, (cmL.elem q || T.elem (q, k)) = false → ¬cyQ q k → μ' q k = μ q k
section
variable {T T' : List (Nat × Nat)} {μ μ1 μ2 : mM}
theorem cyK.same : cyK T μ μ := fun _ _ _ _ => rfl
theorem cyK.trans (h1 : cyK T μ μ1) (h2 : cyK T μ1 μ2) : cyK T μ μ2 := fun q k a b => (h2 q k a b).trans (h1 q k a b)
theorem cyK.of (h : Fr cmL T μ μ1) : cyK T μ μ1 := fun q k a _ => h q k a
theorem cyK.set {q k : Nat} {x : Int} (h : cyK T μ μ1) (hq : cyQ q k) : cyK T μ (mj_set μ1 q k x) := by
  intro q' k' a b
  rw [ms_app]
  by_cases e1 : q' = q
  · by_cases e2 : k' = k
    · subst e1; subst e2; exact absurd hq b
    · rw [if_pos e1, if_neg e2]; exact h q' k' a b
  · rw [if_neg e1]; exact h q' k' a b
theorem cyK.mono (h : cyK T μ μ1) (hc : frB [] T [] T' = true) : cyK T' μ μ1 := by
  intro q k a b
  refine h q k ?_ b
  obtain ⟨h1, h2⟩ := mj_and hc
  cases e1 : cmL.elem q
  · rw [e1] at a
    cases e2 : T.elem (q, k)
    · rfl
    · have : (([] : List Nat).elem q || T'.elem (q, k)) = true := elem_all2 h2 e2
      have a2 : T'.elem (q, k) = false := a
      have b2 : T'.elem (q, k) = true := this
      rw [a2] at b2; cases b2
  · rw [e1] at a; cases a
theorem cyQ.row {q k : Nat} (h : cyQ q k) : cyBr.elem q = true := by
  rcases h with ⟨rfl, _⟩ | ⟨rfl, _⟩ | ⟨rfl, _⟩ | ⟨rfl, _⟩ | ⟨rfl, _⟩ | ⟨rfl, _⟩ | ⟨rfl, _⟩ <;> rfl
theorem cmL_Br {q : Nat} (h : cyBr.elem q = false) : cmL.elem q = false := by
  cases e : cmL.elem q
  · rfl
  · have : cyBr.elem q = true := elem_all (P := fun q => cyBr.elem q) (l := cmL) rfl e
    rw [h] at this; cases this
theorem cyK.fr (h : cyK T μ μ1) : Fr cyBr T μ μ1 := by
  intro q k a
  cases e1 : cyBr.elem q
  · rw [e1] at a
    refine h q k ?_ (fun hq => by have := hq.row; rw [e1] at this; cases this)
    rw [cmL_Br e1]; exact a
  · rw [e1] at a; cases a
end
/-- the sum r of both drafts -/
def cyRR (σ μ : mM) (c r : Nat) : Prop := (¬(σ 17 r < σ 18 r) ∧ μ 179 r = -1) ∨ (∃ a b : Nat, a < b ∧ b ≤ c ∧ σ 17 r = (a : Int) ∧ σ 18 r = (b : Int) ∧ μ 179 r = (a : Int) ∧ μ 180 r = (b : Int) ∧ (∀ j, j < b - a → CStepR (if r = 2 then 6 else 5) (σ 16 (a + j)) (μ 181 (a + j))) ∧ hts 64 (codesOf μ 181 a (b - a)) 0 = some 1)
/-- the drafts are alike: n parts, m pairs, c codes -/
def cyRn' (σ μ : mM) (n m c : Nat) : Prop := (σ 11 4 = (n : Int) ∧ μ 173 0 = (n : Int)) ∧ (σ 11 5 = (m : Int) ∧ μ 173 1 = (m : Int)) ∧ (σ 15 3 = (c : Int) ∧ μ 146 44 = (c : Int)) ∧ (μ 177 0 = σ 11 6 ∧ 0 ≤ σ 11 6 ∧ σ 11 6 < 2 ^ n) ∧ (μ 177 1 = σ 11 7 ∧ 0 ≤ σ 11 7 ∧ σ 11 7 < 2 ^ n) ∧ (μ 178 0 = σ 11 8 ∧ 1 ≤ σ 11 8 ∧ σ 11 8 ≤ 20) ∧ (μ 178 1 = σ 11 9 ∧ 0 ≤ σ 11 9 ∧ σ 11 9 ≤ 100) ∧ (∀ p, p < n → NameR (σ 12 p) (μ 174 p) ∧ μ 175 p = σ 13 p ∧ 0 ≤ σ 13 p ∧ σ 13 p ≤ 20) ∧ (∀ p, p < 7 → μ 176 p = σ 14 p ∧ 0 ≤ σ 14 p ∧ σ 14 p < 2 ^ n) ∧ ∀ r, r < 3 → cyRR σ μ c r
def cyR (σ μ : mM) (s : Nat) : Prop := ∃ n m c : Nat, n ≤ 7 ∧ m ≤ 12 ∧ c ≤ s ∧ cyRn' σ μ n m c
theorem cyRR.cg {σ μ σ' μ' : mM} {c r : Nat} (h : cyRR σ μ c r) (e1 : σ' 16 = σ 16) (e2 : σ' 17 = σ 17) (e3 : σ' 18 = σ 18) (e4 : μ' 179 = μ 179) (e5 : μ' 180 = μ 180) (e6 : μ' 181 = μ 181) : cyRR σ' μ' c r := by
  unfold cyRR codesOf at *
  rw [e1, e2, e3, e4, e5, e6]; exact h
/-- what the class and the model have not touched stays alike -/
theorem cyR.cg {σ μ σ' μ' : mM} {s s' : Nat} (h : cyR σ μ s) (e : cyE σ' σ) (f : Fr [214, 215] [(146, 2), (146, 4), (146, 5), (146, 6), (146, 34), (146, 45), (146, 46), (146, 89), (146, 91), (146, 92), (146, 93)] μ μ') (hs : s ≤ s') : cyR σ' μ' s' := by
  obtain ⟨n, m, c, h1, h2, h3, h4⟩ := h
  refine ⟨n, m, c, h1, h2, by omega, ?_⟩
  unfold cyRn' cyRR codesOf at *
  rw [e 11 (by decide) (by decide), e 12 (by decide) (by decide), e 13 (by decide) (by decide), e 14 (by decide) (by decide), e 15 (by decide) (by decide), e 16 (by decide) (by decide), e 17 (by decide) (by decide), e 18 (by decide) (by decide), f 146 44 rfl, f.row 173 rfl, f.row 174 rfl, f.row 175 rfl, f.row 176 rfl, f.row 177 rfl, f.row 178 rfl, f.row 179 rfl, f.row 180 rfl, f.row 181 rfl]
  exact h4
/-- ends of the model's statement: well, or with a fault -/
def cyG (N : Nat) (t : Nat → Int) (μ : mM) (s' : Nat) (g' : Bool) (τ : mM) (K : Option mV → mM → Prop) : Prop := ∀ μ', cyK cmT μ μ' → PosM μ' N t s' g' → μ' 146 5 = 0 → μ' 146 6 = -1 → cyR τ μ' s' → K none μ'
def cyH (μ : mM) (k x : Int) (K : Option mV → mM → Prop) : Prop := ∀ μ', cyK cmT μ μ' → μ' 146 5 = k → μ' 146 6 = x → K none μ'
theorem cyG.go {N : Nat} {t : Nat → Int} {μ μ1 : mM} {s' : Nat} {g' : Bool} {τ : mM} {K : Option mV → mM → Prop} (h : cyG N t μ s' g' τ K) (f : cyK cmT μ μ1) : cyG N t μ1 s' g' τ K := fun μ' a => h μ' (f.trans a)
theorem cyH.go {μ μ1 : mM} {k x : Int} {K : Option mV → mM → Prop} (h : cyH μ k x K) (f : cyK cmT μ μ1) : cyH μ1 k x K := fun μ' a => h μ' (f.trans a)
section
variable {d : Nat} {σ μ : mM} {K : Option mV → mM → Prop} {N : Nat} {t : Nat → Int} {s n : Nat} {g : Bool}
theorem IsNa.let {e : Nat} (h : IsNa N t s g e) : ∀ l ∈ nmL t s (e - s), 1 ≤ l ∧ l ≤ 26 := by
  intro l hl
  unfold nmL at hl
  rw [List.mem_map] at hl
  obtain ⟨i, hi, rfl⟩ := hl
  rw [List.mem_range] at hi
  have := h.2.2.2.1.2.2.1 (s + i) (by omega) (by omega)
  unfold ltr at this
  omega
theorem IsNa.uniq {e e' : Nat} (h : IsNa N t s g e) (h2 : IsNa N t s g e') : e = e' := h.2.2.2.1.uniq h2.2.2.2.1
theorem IsNa.noF {e : Nat} {k x : Int} (h : IsNa N t s g e) (h2 : NaF N t s g k x) : False := by
  obtain ⟨a1, a2, a3, a4, a5, a6⟩ := h
  obtain ⟨-, ⟨-, h | ⟨w, e', hw, h⟩⟩ | ⟨-, e', -, -, -, h4, -, h6⟩⟩ := h2
  · exact h ⟨a1, a2, a3⟩
  · obtain rfl := a4.uniq h.2.2.2.1
    exact a5 w hw h.2.2.2.2
  · obtain rfl := a4.uniq h4
    omega
theorem NaF.uniq {k x k' x' : Int} (h : NaF N t s g k x) (h2 : NaF N t s g k' x') : k = k' ∧ x = x' := by
  obtain ⟨rfl, h⟩ := h
  obtain ⟨rfl, h2⟩ := h2
  refine ⟨rfl, ?_⟩
  have key : ∀ {x x' : Int}, (x = (s : Int) ∧ ((¬(g = false ∧ s < N ∧ ltr (t s))) ∨ ∃ w e, w < 24 ∧ IsWd N t s g e w)) → (x' = (s : Int) + 6 ∧ ∃ e, g = false ∧ s < N ∧ ltr (t s) ∧ RunP ltr N t s e ∧ (∀ w, w < 24 → ¬isW t s e w) ∧ 6 < e - s) → False := by
    intro x x' ⟨_, h⟩ ⟨_, e', b1, b2, b3, b4, b5, _⟩
    rcases h with h | ⟨w, e, hw, h⟩
    · exact h ⟨b1, b2, b3⟩
    · obtain rfl := b4.uniq h.2.2.2.1
      exact b5 w hw h.2.2.2.2
  rcases h with h | h
  · rcases h2 with h2 | h2
    · rw [h.1, h2.1]
    · exact (key h h2).elim
  · rcases h2 with h2 | h2
    · exact (key h2 h).elim
    · rw [h.1, h2.1]
theorem name_iff {e p : Nat} (hN : NameR (σ 12 p) (μ 174 p)) (hi : IsNa N t s g e) : σ 12 p = enc5 (nmL t s (e - s)) ↔ μ 174 p = enc27 (nmL t s (e - s)) 0 := by
  obtain ⟨ls, -, -, h3, h4, h5⟩ := hN
  rw [h4, h5]
  constructor
  · intro h
    rw [enc5_inj ls _ h3 hi.let h]
  · intro h
    rw [enc27_inj h3 hi.let h]
theorem m_one_ok {e a : Nat} (hN : ∀ p, p < n → NameR (σ 12 p) (μ 174 p)) (h : cyNm N t σ s g n e a) (hF : Fix μ) (hT : TxM μ N t) (hb : μ 146 5 = 0) (hP : PosM μ N t s g) (hn : μ 173 0 = (n : Int)) (n7 : n ≤ 7)
    (hK : ∀ μ' s', Skp N t e s' → PosM μ' N t s' (decide (s' = e)) → μ' 146 34 = (s : Int) → μ' 146 5 = 0 → μ' 146 6 = μ 146 6 → Fr [] naT μ μ' → K (some (.inl (a : Int))) μ') : Mt (d + 5) 169 [.inr (.inr 146)] μ K := by
  obtain ⟨hi, han, ha, hq⟩ := h
  refine m_oneOf hF hT hb hP hn n7 (fun μ' e' s' p hi' k1 p1 c1 c2 c3 f hp e1 e2 => ?_) (fun μ' k x hf c1 c2 f => ?_)
  · obtain rfl := hi'.uniq hi
    have e1' := (name_iff (hN p hp) hi).mpr e1
    have : p = a := by
      rcases Nat.lt_trichotomy p a with h | h | h
      · exact absurd e1' (hq p h)
      · exact h
      · exact absurd ((name_iff (hN a han) hi).mp ha) (e2 a h)
    subst this
    exact hK μ' s' k1 p1 c1 c2 c3 f
  · exfalso
    rcases hf with hf | ⟨-, -, e', hi', hf⟩
    · exact hi.noF hf
    · obtain rfl := hi'.uniq hi
      exact hf a han ((name_iff (hN a han) hi).mp ha)
theorem m_one_no {k x : Int} (hN : ∀ p, p < n → NameR (σ 12 p) (μ 174 p)) (h : cyNo N t σ s g n k x) (hF : Fix μ) (hT : TxM μ N t) (hb : μ 146 5 = 0) (hP : PosM μ N t s g) (hn : μ 173 0 = (n : Int)) (n7 : n ≤ 7)
    (hK : ∀ μ', μ' 146 5 = k → μ' 146 6 = x → Fr [] naT μ μ' → K (some (.inl 0)) μ') : Mt (d + 5) 169 [.inr (.inr 146)] μ K := by
  refine m_oneOf hF hT hb hP hn n7 (fun μ' e' s' p hi' k1 p1 c1 c2 c3 f hp e1 e2 => ?_) (fun μ' k' x' hf c1 c2 f => ?_)
  · exfalso
    rcases h with h | ⟨-, -, e, hi, h⟩
    · exact hi'.noF h
    · obtain rfl := hi'.uniq hi
      exact h p hp ((name_iff (hN p hp) hi').mpr e1)
  · have : k' = k ∧ x' = x := by
      rcases h with h | ⟨h1, h2, e, hi, h⟩
      · rcases hf with hf | ⟨b1, b2, e', hi', hf⟩
        · exact hf.uniq h
        · exact (hi'.noF h).elim
      · rcases hf with hf | ⟨b1, b2, e', hi', hf⟩
        · exact (hi.noF hf).elim
        · rw [h1, h2, b1, b2]; exact ⟨rfl, rfl⟩
    rw [this.1] at c1
    rw [this.2] at c2
    exact hK μ' c1 c2 f
theorem m_one_bad (hF : Fix μ) (hb : μ 146 5 ≠ 0) (hn : μ 173 0 = (n : Int)) (n7 : n ≤ 7) (hK : K (some (.inl 0)) μ) : Mt (d + 2) 169 [.inr (.inr 146)] μ K := by
  refine Mt.go (lv := [some (.inr (.inr 146)), none, none, none]) rfl rfl rfl ?_
  have two : ∀ i : Int, At (d + 1) 169 1 [some (.inr (.inr 146)), some (.inr (.inl 0)), none, some (.inl i)] [] μ K := by
    intro i
    refine At.blk rfl rfl rfl fun sx => ?_
    simp (decide := true) only [RR, ms_app, toList_some, toList_none, if_true, if_false, true_and, and_true, cond_true, sm0, sm1, sm1l, sm2, lc_lt, lc_gt, lc_eq, Int.toNat_natCast, Int.reduceToNat, Nat.reduceAdd, Nat.reduceEqDiff, Int.reduceLT, Int.reduceEq, Int.reduceNeg, Int.reduceAdd, Int.reduceMul, Nat.reduceMul, ms_n, ms_i, ms_l, ms_p, PM]
    rw [if_neg hb]
    refine At.blk rfl rfl rfl fun sx => ?_
    simp (decide := true) only [RR, ms_app, toList_some, toList_none, if_true, if_false, true_and, and_true, cond_true, sm0, sm1, sm1l, sm2, lc_lt, lc_gt, lc_eq, Int.toNat_natCast, Int.reduceToNat, Nat.reduceAdd, Nat.reduceEqDiff, Int.reduceLT, Int.reduceEq, Int.reduceNeg, Int.reduceAdd, Int.reduceMul, Nat.reduceMul, ms_n, ms_i, ms_l, ms_p, PM]
    refine At.blk rfl rfl rfl fun sx => ?_
    simp (decide := true) only [RR, ms_app, toList_some, toList_none, if_true, if_false, true_and, and_true, cond_true, sm0, sm1, sm1l, sm2, lc_lt, lc_gt, lc_eq, Int.toNat_natCast, Int.reduceToNat, Nat.reduceAdd, Nat.reduceEqDiff, Int.reduceLT, Int.reduceEq, Int.reduceNeg, Int.reduceAdd, Int.reduceMul, Nat.reduceMul, ms_n, ms_i, ms_l, ms_p, PM]
    exact hK
  refine At.blk rfl rfl rfl fun sx => ?_
  simp (decide := true) only [RR, ms_app, toList_some, toList_none, if_true, if_false, true_and, and_true, cond_true, sm0, sm1, sm1l, sm2, lc_lt, lc_gt, lc_eq, Int.toNat_natCast, Int.reduceToNat, Nat.reduceAdd, Nat.reduceEqDiff, Int.reduceLT, Int.reduceEq, Int.reduceNeg, Int.reduceAdd, Int.reduceMul, Nat.reduceMul, ms_n, ms_i, ms_l, ms_p, PM]
  refine cal_of rfl (Mt.go (lv := [some (.inr (.inr 146)), none, none]) rfl rfl rfl ?_)
  refine At.blk rfl rfl rfl fun sx => ?_
  simp (decide := true) only [RR, ms_app, toList_some, toList_none, if_true, if_false, true_and, and_true, cond_true, sm0, sm1, sm1l, sm2, lc_lt, lc_gt, lc_eq, Int.toNat_natCast, Int.reduceToNat, Nat.reduceAdd, Nat.reduceEqDiff, Int.reduceLT, Int.reduceEq, Int.reduceNeg, Int.reduceAdd, Int.reduceMul, Nat.reduceMul, ms_n, ms_i, ms_l, ms_p, PM]
  rw [if_neg hb]
  refine cal_of rfl (m_nameOf hF hn n7 (fun p hp he hq => ?_) (fun hq => ?_))
  · simp (decide := true) only [RR, ms_app, toList_some, toList_none, if_true, if_false, true_and, and_true, cond_true, sm0, sm1, sm1l, sm2, lc_lt, lc_gt, lc_eq, Int.toNat_natCast, Int.reduceToNat, Nat.reduceAdd, Nat.reduceEqDiff, Int.reduceLT, Int.reduceEq, Int.reduceNeg, Int.reduceAdd, Int.reduceMul, Nat.reduceMul, ms_n, ms_i, ms_l, ms_p, PM]
    rw [if_neg hb]
    exact two _
  · simp (decide := true) only [RR, ms_app, toList_some, toList_none, if_true, if_false, true_and, and_true, cond_true, sm0, sm1, sm1l, sm2, lc_lt, lc_gt, lc_eq, Int.toNat_natCast, Int.reduceToNat, Nat.reduceAdd, Nat.reduceEqDiff, Int.reduceLT, Int.reduceEq, Int.reduceNeg, Int.reduceAdd, Int.reduceMul, Nat.reduceMul, ms_n, ms_i, ms_l, ms_p, PM]
    rw [if_neg hb]
    exact two _
theorem m_number_bad {a b : Int} (hb : μ 146 5 ≠ 0) (hK : K (some (.inl 0)) μ) : Mt (d + 1) 164 [.inr (.inr 146), .inl a, .inl b] μ K := by
  refine Mt.go (lv := [some (.inr (.inr 146)), some (.inl a), some (.inl b), none, none]) rfl rfl rfl ?_
  refine At.blk rfl rfl rfl fun sx => ?_
  simp (decide := true) only [RR, ms_app, toList_some, toList_none, if_true, if_false, true_and, and_true, cond_true, sm0, sm1, sm1l, sm2, lc_lt, lc_gt, lc_eq, Int.toNat_natCast, Int.reduceToNat, Nat.reduceAdd, Nat.reduceEqDiff, Int.reduceLT, Int.reduceEq, Int.reduceNeg, Int.reduceAdd, Int.reduceMul, Nat.reduceMul, ms_n, ms_i, ms_l, ms_p, PM]
  rw [if_neg hb]
  exact hK
theorem m_asks_bad {q : Nat} (hb : μ 146 5 ≠ 0) (hK : K none μ) : Mt (d + 1) 161 [.inr (.inr 146), .inr (.inr q)] μ K := by
  refine Mt.go (lv := [some (.inr (.inr 146)), some (.inr (.inr q))]) rfl rfl rfl ?_
  refine At.blk rfl rfl rfl fun sx => ?_
  simp (decide := true) only [RR, ms_app, toList_some, toList_none, if_true, if_false, true_and, and_true, cond_true, sm0, sm1, sm1l, sm2, lc_lt, lc_gt, lc_eq, Int.toNat_natCast, Int.reduceToNat, Nat.reduceAdd, Nat.reduceEqDiff, Int.reduceLT, Int.reduceEq, Int.reduceNeg, Int.reduceAdd, Int.reduceMul, Nat.reduceMul, ms_n, ms_i, ms_l, ms_p, PM]
  rw [if_neg hb]
  refine At.blk rfl rfl rfl fun sx => ?_
  simp (decide := true) only [RR, ms_app, toList_some, toList_none, if_true, if_false, true_and, and_true, cond_true, sm0, sm1, sm1l, sm2, lc_lt, lc_gt, lc_eq, Int.toNat_natCast, Int.reduceToNat, Nat.reduceAdd, Nat.reduceEqDiff, Int.reduceLT, Int.reduceEq, Int.reduceNeg, Int.reduceAdd, Int.reduceMul, Nat.reduceMul, ms_n, ms_i, ms_l, ms_p, PM]
  exact hK
theorem m_asksSign_bad {c : Int} (hb : μ 146 5 ≠ 0) (hK : K none μ) : Mt (d + 1) 163 [.inr (.inr 146), .inl c] μ K := by
  refine Mt.go (lv := [some (.inr (.inr 146)), some (.inl c)]) rfl rfl rfl ?_
  refine At.blk rfl rfl rfl fun sx => ?_
  simp (decide := true) only [RR, ms_app, toList_some, toList_none, if_true, if_false, true_and, and_true, cond_true, sm0, sm1, sm1l, sm2, lc_lt, lc_gt, lc_eq, Int.toNat_natCast, Int.reduceToNat, Nat.reduceAdd, Nat.reduceEqDiff, Int.reduceLT, Int.reduceEq, Int.reduceNeg, Int.reduceAdd, Int.reduceMul, Nat.reduceMul, ms_n, ms_i, ms_l, ms_p, PM]
  rw [if_neg hb]
  refine At.blk rfl rfl rfl fun sx => ?_
  simp (decide := true) only [RR, ms_app, toList_some, toList_none, if_true, if_false, true_and, and_true, cond_true, sm0, sm1, sm1l, sm2, lc_lt, lc_gt, lc_eq, Int.toNat_natCast, Int.reduceToNat, Nat.reduceAdd, Nat.reduceEqDiff, Int.reduceLT, Int.reduceEq, Int.reduceNeg, Int.reduceAdd, Int.reduceMul, Nat.reduceMul, ms_n, ms_i, ms_l, ms_p, PM]
  exact hK
end
