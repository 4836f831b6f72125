/-! THE LAW'S LOOP, out of the pairs of calls -/
/-- a number of the script -/
def inR (x : Int) : Prop := -2147483648 ≤ x ∧ x < 2147483648
/-- class and model answer alike, and stay alike -/
def PairI (Inv : mM → Prop) (yx ym : Nat) (as : List mV) (σ : mM) : Prop := Mt 1000 yx (.inr (.inr 0) :: as) σ (fun r σ1 => ∃ v, r = some (.inl v) ∧ Mt 1000 ym (.inr (.inr 146) :: as) σ1 (fun r2 σ2 => r2 = some (.inl v) ∧ Inv σ2))
def PairL (Inv : mM → Prop) (yx ym : Nat) (as : List mV) (σ : mM) : Prop := Mt 1000 yx (.inr (.inr 0) :: as) σ (fun r σ1 => ∃ v, r = some (.inr (.inl v)) ∧ Mt 1000 ym (.inr (.inr 146) :: as) σ1 (fun r2 σ2 => r2 = some (.inr (.inl v)) ∧ Inv σ2))
def AllPairs (Inv : mM → Prop) (σ : mM) : Prop :=
  (∀ a0 a1 a2 a3 a4 : Int, inR a0 → inR a1 → inR a2 → inR a3 → inR a4 → PairI Inv 106 153 [.inl a0, .inl a1, .inl a2, .inl a3, .inl a4] σ) ∧
  (∀ a0 : Int, inR a0 → PairI Inv 107 154 [.inl a0] σ) ∧
  (PairI Inv 108 175 [] σ) ∧
  (∀ a0 : Int, inR a0 → PairI Inv 109 177 [.inl a0] σ) ∧
  (∀ a0 : Int, inR a0 → PairI Inv 110 203 [.inl a0] σ) ∧
  (∀ a0 a1 : Int, inR a0 → inR a1 → PairI Inv 111 204 [.inl a0, .inl a1] σ) ∧
  (∀ a0 a1 : Int, inR a0 → inR a1 → PairI Inv 112 205 [.inl a0, .inl a1] σ) ∧
  (∀ a0 a1 : Int, inR a0 → inR a1 → PairI Inv 113 206 [.inl a0, .inl a1] σ) ∧
  (∀ a0 a1 : Int, inR a0 → inR a1 → PairI Inv 114 207 [.inl a0, .inl a1] σ) ∧
  (∀ a0 a1 a2 : Int, inR a0 → inR a1 → inR a2 → PairI Inv 115 208 [.inl a0, .inl a1, .inl a2] σ) ∧
  (∀ a0 : Int, inR a0 → PairI Inv 116 209 [.inl a0] σ) ∧
  (∀ a0 : Int, inR a0 → PairI Inv 117 211 [.inl a0] σ) ∧
  (∀ a0 a1 a2 : Int, inR a0 → inR a1 → inR a2 → PairI Inv 118 212 [.inl a0, .inl a1, .inl a2] σ) ∧
  (∀ a0 a1 : Int, inR a0 → inR a1 → PairI Inv 119 214 [.inl a0, .inl a1] σ) ∧
  (∀ a0 a1 : Int, inR a0 → inR a1 → PairI Inv 120 215 [.inl a0, .inl a1] σ) ∧
  (∀ a0 : Int, inR a0 → PairI Inv 121 218 [.inl a0] σ) ∧
  (PairI Inv 122 220 [] σ) ∧
  (∀ a0 : Int, inR a0 → PairI Inv 123 223 [.inl a0] σ) ∧
  (∀ a0 a1 : Int, inR a0 → inR a1 → PairI Inv 124 225 [.inl a0, .inl a1] σ) ∧
  (∀ a0 a1 : Int, inR a0 → inR a1 → PairI Inv 125 229 [.inl a0, .inl a1] σ) ∧
  (∀ a0 : Int, inR a0 → PairI Inv 126 230 [.inl a0] σ) ∧
  (∀ a0 a1 : Int, inR a0 → inR a1 → PairI Inv 127 231 [.inl a0, .inl a1] σ) ∧
  (∀ a0 a1 : Int, inR a0 → inR a1 → PairI Inv 128 232 [.inl a0, .inl a1] σ) ∧
  (∀ a0 : Int, inR a0 → PairI Inv 129 233 [.inl a0] σ) ∧
  (∀ a0 : Int, inR a0 → PairI Inv 130 236 [.inl a0] σ) ∧
  (PairI Inv 131 227 [] σ) ∧
  (∀ a0 : Int, inR a0 → PairI Inv 132 234 [.inl a0] σ) ∧
  (PairL Inv 133 265 [] σ) ∧
  (PairI Inv 134 268 [] σ) ∧
  (∀ a0 : Int, inR a0 → PairI Inv 135 269 [.inl a0] σ) ∧
  (PairI Inv 136 271 [] σ) ∧
  (∀ a0 : Int, inR a0 → PairI Inv 137 272 [.inl a0] σ)
theorem mj_inR (x : Int32) : inR x.toInt := mj_rng x
section
variable {L : Nat} {xs : Nat → Int32} {Inv : mM → Prop}
/-- the loop's head with i ints read -/
def LHead (L : Nat) (xs : Nat → Int32) (i : Nat) (σ : mM) : Prop := LAt L xs 1 [some (.inr (.inr mj_SCR)), some (.inr (.inr 0)), some (.inr (.inr 146)), some (.inl (i : Int))] [] 218 σ
def LBlk (L : Nat) (xs : Nat → Int32) (b i : Nat) (σ : mM) : Prop := LAt L xs b [some (.inr (.inr mj_SCR)), some (.inr (.inr 0)), some (.inr (.inr 146)), some (.inl (i : Int))] [] 218 σ
theorem sc_len {sx : mS} {top : Nat} {cal : mC} {J : mJ} {KR : mK} {lv : mL} {st : List mV} {σ : mM} {k : mL → List mV → Nat → mM → Prop} {a b z : Nat} : mj_op sx top cal J KR (.arraylength, a, b, z) lv (.inr (.inr mj_SCR) :: st) 218 σ k = k lv (.inl (sx.1 : Int) :: st) 218 σ := rfl
theorem sc_ld {sx : mS} {top : Nat} {cal : mC} {J : mJ} {KR : mK} {lv : mL} {st : List mV} {σ : mM} {k : mL → List mV → Nat → mM → Prop} {j : Int} {a b z : Nat} : mj_op sx top cal J KR (.iaload, a, b, z) lv (.inl j :: .inr (.inr mj_SCR) :: st) 218 σ k = ((0 ≤ j ∧ j < sx.1) ∧ k lv (.inl (sx.2 j.toNat).toInt :: st) 218 σ) := rfl
theorem w32_id {x : Int} (h : -2147483648 ≤ x) (h2 : x < 2147483648) : w32 x = x := by unfold w32; exact Int.bmod_eq_of_le (by omega) (by omega)
theorem toList_some {v : mV} {st : List mV} : (some v).toList ++ st = v :: st := rfl
theorem toList_none {st : List mV} : (none : Option mV).toList ++ st = st := rfl
theorem mj_is0 : mj_is 218 0 11 = true := rfl
theorem mj_is146 : mj_is 218 146 12 = true := rfl
theorem sm0 : Nat.ble (mj_sum []) 8 = true := rfl
theorem sm1 {x : Int} : Nat.ble (mj_sum [.inl x]) 8 = true := rfl
theorem l_cmp_self {x : Int} : l_cmp x x = 0 := by simp [l_cmp]
theorem sm1l {x : Int} : Nat.ble (mj_sum [.inr (.inl x)]) 8 = true := rfl
set_option maxHeartbeats 2000000 in
/-- feed -/
theorem law_b2 {i : Nat} {σ : mM} (hi : i + 6 ≤ L) (hL : L ≤ 3072) (hp : PairI Inv 106 153 [.inl (xs (i + 1)).toInt, .inl (xs (i + 2)).toInt, .inl (xs (i + 3)).toInt, .inl (xs (i + 4)).toInt, .inl (xs (i + 5)).toInt] σ) (h : ∀ σ2, Inv σ2 → LBlk L xs 34 i σ2) : LBlk L xs 2 i σ := by
  have e1 : w32 ((i : Int) + 1) = ((i + 1 : Nat) : Int) := by rw [w32_id (by omega) (by omega)]; omega
  have e2 : w32 ((i : Int) + 2) = ((i + 2 : Nat) : Int) := by rw [w32_id (by omega) (by omega)]; omega
  have e3 : w32 ((i : Int) + 3) = ((i + 3 : Nat) : Int) := by rw [w32_id (by omega) (by omega)]; omega
  have e4 : w32 ((i : Int) + 4) = ((i + 4 : Nat) : Int) := by rw [w32_id (by omega) (by omega)]; omega
  have e5 : w32 ((i : Int) + 5) = ((i + 5 : Nat) : Int) := by rw [w32_id (by omega) (by omega)]; omega
  refine LAt.blk rfl rfl (Nat.le_refl _) ?_
  simp only [RR, sc_ld, e1, e2, e3, e4, e5, Int.toNat_natCast, mj_is0, mj_is146, cond_true, sm0, true_and]
  refine ⟨⟨by omega, by omega⟩, ⟨⟨by omega, by omega⟩, ⟨⟨by omega, by omega⟩, ⟨⟨by omega, by omega⟩, ⟨⟨by omega, by omega⟩, ?_⟩⟩⟩⟩⟩
  refine cal_of rfl (hp.mono ?_)
  rintro r σ1 ⟨v, rfl, h2⟩
  simp only [RR, sc_ld, e1, e2, e3, e4, e5, Int.toNat_natCast, mj_is0, mj_is146, cond_true, sm0, sm1, sm1l, toList_some, true_and]
  refine ⟨⟨by omega, by omega⟩, ⟨⟨by omega, by omega⟩, ⟨⟨by omega, by omega⟩, ⟨⟨by omega, by omega⟩, ⟨⟨by omega, by omega⟩, ?_⟩⟩⟩⟩⟩
  refine cal_of rfl (h2.mono ?_)
  rintro r2 σ2 ⟨rfl, h3⟩
  simp only [RR, toList_some, if_true]
  exact h σ2 h3
set_option maxHeartbeats 2000000 in
/-- end -/
theorem law_b3 {i : Nat} {σ : mM} (hi : i + 6 ≤ L) (hL : L ≤ 3072) (hp : PairI Inv 107 154 [.inl (xs (i + 1)).toInt] σ) (h : ∀ σ2, Inv σ2 → LBlk L xs 34 i σ2) : LBlk L xs 3 i σ := by
  have e1 : w32 ((i : Int) + 1) = ((i + 1 : Nat) : Int) := by rw [w32_id (by omega) (by omega)]; omega
  refine LAt.blk rfl rfl (Nat.le_refl _) ?_
  simp only [RR, sc_ld, e1, Int.toNat_natCast, mj_is0, mj_is146, cond_true, sm0, true_and]
  refine ⟨⟨by omega, by omega⟩, ?_⟩
  refine cal_of rfl (hp.mono ?_)
  rintro r σ1 ⟨v, rfl, h2⟩
  simp only [RR, sc_ld, e1, Int.toNat_natCast, mj_is0, mj_is146, cond_true, sm0, sm1, sm1l, toList_some, true_and]
  refine ⟨⟨by omega, by omega⟩, ?_⟩
  refine cal_of rfl (h2.mono ?_)
  rintro r2 σ2 ⟨rfl, h3⟩
  simp only [RR, toList_some, if_true]
  exact h σ2 h3
set_option maxHeartbeats 2000000 in
/-- city -/
theorem law_b4 {i : Nat} {σ : mM} (hi : i + 6 ≤ L) (hL : L ≤ 3072) (hp : PairI Inv 108 175 [] σ) (h : ∀ σ2, Inv σ2 → LBlk L xs 34 i σ2) : LBlk L xs 4 i σ := by
  refine LAt.blk rfl rfl (Nat.le_refl _) ?_
  simp only [RR, sc_ld, Int.toNat_natCast, mj_is0, mj_is146, cond_true, sm0, true_and]
  skip
  refine cal_of rfl (hp.mono ?_)
  rintro r σ1 ⟨v, rfl, h2⟩
  simp only [RR, sc_ld, Int.toNat_natCast, mj_is0, mj_is146, cond_true, sm0, sm1, sm1l, toList_some, true_and]
  skip
  refine cal_of rfl (h2.mono ?_)
  rintro r2 σ2 ⟨rfl, h3⟩
  simp only [RR, toList_some, if_true]
  exact h σ2 h3
set_option maxHeartbeats 2000000 in
/-- fault -/
theorem law_b5 {i : Nat} {σ : mM} (hi : i + 6 ≤ L) (hL : L ≤ 3072) (hp : PairI Inv 109 177 [.inl (xs (i + 1)).toInt] σ) (h : ∀ σ2, Inv σ2 → LBlk L xs 34 i σ2) : LBlk L xs 5 i σ := by
  have e1 : w32 ((i : Int) + 1) = ((i + 1 : Nat) : Int) := by rw [w32_id (by omega) (by omega)]; omega
  refine LAt.blk rfl rfl (Nat.le_refl _) ?_
  simp only [RR, sc_ld, e1, Int.toNat_natCast, mj_is0, mj_is146, cond_true, sm0, true_and]
  refine ⟨⟨by omega, by omega⟩, ?_⟩
  refine cal_of rfl (hp.mono ?_)
  rintro r σ1 ⟨v, rfl, h2⟩
  simp only [RR, sc_ld, e1, Int.toNat_natCast, mj_is0, mj_is146, cond_true, sm0, sm1, sm1l, toList_some, true_and]
  refine ⟨⟨by omega, by omega⟩, ?_⟩
  refine cal_of rfl (h2.mono ?_)
  rintro r2 σ2 ⟨rfl, h3⟩
  simp only [RR, toList_some, if_true]
  exact h σ2 h3
set_option maxHeartbeats 2000000 in
/-- has -/
theorem law_b6 {i : Nat} {σ : mM} (hi : i + 6 ≤ L) (hL : L ≤ 3072) (hp : PairI Inv 110 203 [.inl (xs (i + 1)).toInt] σ) (h : ∀ σ2, Inv σ2 → LBlk L xs 34 i σ2) : LBlk L xs 6 i σ := by
  have e1 : w32 ((i : Int) + 1) = ((i + 1 : Nat) : Int) := by rw [w32_id (by omega) (by omega)]; omega
  refine LAt.blk rfl rfl (Nat.le_refl _) ?_
  simp only [RR, sc_ld, e1, Int.toNat_natCast, mj_is0, mj_is146, cond_true, sm0, true_and]
  refine ⟨⟨by omega, by omega⟩, ?_⟩
  refine cal_of rfl (hp.mono ?_)
  rintro r σ1 ⟨v, rfl, h2⟩
  simp only [RR, sc_ld, e1, Int.toNat_natCast, mj_is0, mj_is146, cond_true, sm0, sm1, sm1l, toList_some, true_and]
  refine ⟨⟨by omega, by omega⟩, ?_⟩
  refine cal_of rfl (h2.mono ?_)
  rintro r2 σ2 ⟨rfl, h3⟩
  simp only [RR, toList_some, if_true]
  exact h σ2 h3
set_option maxHeartbeats 2000000 in
/-- letter -/
theorem law_b7 {i : Nat} {σ : mM} (hi : i + 6 ≤ L) (hL : L ≤ 3072) (hp : PairI Inv 111 204 [.inl (xs (i + 1)).toInt, .inl (xs (i + 2)).toInt] σ) (h : ∀ σ2, Inv σ2 → LBlk L xs 34 i σ2) : LBlk L xs 7 i σ := by
  have e1 : w32 ((i : Int) + 1) = ((i + 1 : Nat) : Int) := by rw [w32_id (by omega) (by omega)]; omega
  have e2 : w32 ((i : Int) + 2) = ((i + 2 : Nat) : Int) := by rw [w32_id (by omega) (by omega)]; omega
  refine LAt.blk rfl rfl (Nat.le_refl _) ?_
  simp only [RR, sc_ld, e1, e2, Int.toNat_natCast, mj_is0, mj_is146, cond_true, sm0, true_and]
  refine ⟨⟨by omega, by omega⟩, ⟨⟨by omega, by omega⟩, ?_⟩⟩
  refine cal_of rfl (hp.mono ?_)
  rintro r σ1 ⟨v, rfl, h2⟩
  simp only [RR, sc_ld, e1, e2, Int.toNat_natCast, mj_is0, mj_is146, cond_true, sm0, sm1, sm1l, toList_some, true_and]
  refine ⟨⟨by omega, by omega⟩, ⟨⟨by omega, by omega⟩, ?_⟩⟩
  refine cal_of rfl (h2.mono ?_)
  rintro r2 σ2 ⟨rfl, h3⟩
  simp only [RR, toList_some, if_true]
  exact h σ2 h3
set_option maxHeartbeats 2000000 in
/-- part -/
theorem law_b8 {i : Nat} {σ : mM} (hi : i + 6 ≤ L) (hL : L ≤ 3072) (hp : PairI Inv 112 205 [.inl (xs (i + 1)).toInt, .inl (xs (i + 2)).toInt] σ) (h : ∀ σ2, Inv σ2 → LBlk L xs 34 i σ2) : LBlk L xs 8 i σ := by
  have e1 : w32 ((i : Int) + 1) = ((i + 1 : Nat) : Int) := by rw [w32_id (by omega) (by omega)]; omega
  have e2 : w32 ((i : Int) + 2) = ((i + 2 : Nat) : Int) := by rw [w32_id (by omega) (by omega)]; omega
  refine LAt.blk rfl rfl (Nat.le_refl _) ?_
  simp only [RR, sc_ld, e1, e2, Int.toNat_natCast, mj_is0, mj_is146, cond_true, sm0, true_and]
  refine ⟨⟨by omega, by omega⟩, ⟨⟨by omega, by omega⟩, ?_⟩⟩
  refine cal_of rfl (hp.mono ?_)
  rintro r σ1 ⟨v, rfl, h2⟩
  simp only [RR, sc_ld, e1, e2, Int.toNat_natCast, mj_is0, mj_is146, cond_true, sm0, sm1, sm1l, toList_some, true_and]
  refine ⟨⟨by omega, by omega⟩, ⟨⟨by omega, by omega⟩, ?_⟩⟩
  refine cal_of rfl (h2.mono ?_)
  rintro r2 σ2 ⟨rfl, h3⟩
  simp only [RR, toList_some, if_true]
  exact h σ2 h3
set_option maxHeartbeats 2000000 in
/-- tonight -/
theorem law_b9 {i : Nat} {σ : mM} (hi : i + 6 ≤ L) (hL : L ≤ 3072) (hp : PairI Inv 113 206 [.inl (xs (i + 1)).toInt, .inl (xs (i + 2)).toInt] σ) (h : ∀ σ2, Inv σ2 → LBlk L xs 34 i σ2) : LBlk L xs 9 i σ := by
  have e1 : w32 ((i : Int) + 1) = ((i + 1 : Nat) : Int) := by rw [w32_id (by omega) (by omega)]; omega
  have e2 : w32 ((i : Int) + 2) = ((i + 2 : Nat) : Int) := by rw [w32_id (by omega) (by omega)]; omega
  refine LAt.blk rfl rfl (Nat.le_refl _) ?_
  simp only [RR, sc_ld, e1, e2, Int.toNat_natCast, mj_is0, mj_is146, cond_true, sm0, true_and]
  refine ⟨⟨by omega, by omega⟩, ⟨⟨by omega, by omega⟩, ?_⟩⟩
  refine cal_of rfl (hp.mono ?_)
  rintro r σ1 ⟨v, rfl, h2⟩
  simp only [RR, sc_ld, e1, e2, Int.toNat_natCast, mj_is0, mj_is146, cond_true, sm0, sm1, sm1l, toList_some, true_and]
  refine ⟨⟨by omega, by omega⟩, ⟨⟨by omega, by omega⟩, ?_⟩⟩
  refine cal_of rfl (h2.mono ?_)
  rintro r2 σ2 ⟨rfl, h3⟩
  simp only [RR, toList_some, if_true]
  exact h σ2 h3
set_option maxHeartbeats 2000000 in
/-- kept -/
theorem law_b10 {i : Nat} {σ : mM} (hi : i + 6 ≤ L) (hL : L ≤ 3072) (hp : PairI Inv 114 207 [.inl (xs (i + 1)).toInt, .inl (xs (i + 2)).toInt] σ) (h : ∀ σ2, Inv σ2 → LBlk L xs 34 i σ2) : LBlk L xs 10 i σ := by
  have e1 : w32 ((i : Int) + 1) = ((i + 1 : Nat) : Int) := by rw [w32_id (by omega) (by omega)]; omega
  have e2 : w32 ((i : Int) + 2) = ((i + 2 : Nat) : Int) := by rw [w32_id (by omega) (by omega)]; omega
  refine LAt.blk rfl rfl (Nat.le_refl _) ?_
  simp only [RR, sc_ld, e1, e2, Int.toNat_natCast, mj_is0, mj_is146, cond_true, sm0, true_and]
  refine ⟨⟨by omega, by omega⟩, ⟨⟨by omega, by omega⟩, ?_⟩⟩
  refine cal_of rfl (hp.mono ?_)
  rintro r σ1 ⟨v, rfl, h2⟩
  simp only [RR, sc_ld, e1, e2, Int.toNat_natCast, mj_is0, mj_is146, cond_true, sm0, sm1, sm1l, toList_some, true_and]
  refine ⟨⟨by omega, by omega⟩, ⟨⟨by omega, by omega⟩, ?_⟩⟩
  refine cal_of rfl (h2.mono ?_)
  rintro r2 σ2 ⟨rfl, h3⟩
  simp only [RR, toList_some, if_true]
  exact h σ2 h3
set_option maxHeartbeats 2000000 in
/-- later -/
theorem law_b11 {i : Nat} {σ : mM} (hi : i + 6 ≤ L) (hL : L ≤ 3072) (hp : PairI Inv 115 208 [.inl (xs (i + 1)).toInt, .inl (xs (i + 2)).toInt, .inl (xs (i + 3)).toInt] σ) (h : ∀ σ2, Inv σ2 → LBlk L xs 34 i σ2) : LBlk L xs 11 i σ := by
  have e1 : w32 ((i : Int) + 1) = ((i + 1 : Nat) : Int) := by rw [w32_id (by omega) (by omega)]; omega
  have e2 : w32 ((i : Int) + 2) = ((i + 2 : Nat) : Int) := by rw [w32_id (by omega) (by omega)]; omega
  have e3 : w32 ((i : Int) + 3) = ((i + 3 : Nat) : Int) := by rw [w32_id (by omega) (by omega)]; omega
  refine LAt.blk rfl rfl (Nat.le_refl _) ?_
  simp only [RR, sc_ld, e1, e2, e3, Int.toNat_natCast, mj_is0, mj_is146, cond_true, sm0, true_and]
  refine ⟨⟨by omega, by omega⟩, ⟨⟨by omega, by omega⟩, ⟨⟨by omega, by omega⟩, ?_⟩⟩⟩
  refine cal_of rfl (hp.mono ?_)
  rintro r σ1 ⟨v, rfl, h2⟩
  simp only [RR, sc_ld, e1, e2, e3, Int.toNat_natCast, mj_is0, mj_is146, cond_true, sm0, sm1, sm1l, toList_some, true_and]
  refine ⟨⟨by omega, by omega⟩, ⟨⟨by omega, by omega⟩, ⟨⟨by omega, by omega⟩, ?_⟩⟩⟩
  refine cal_of rfl (h2.mono ?_)
  rintro r2 σ2 ⟨rfl, h3⟩
  simp only [RR, toList_some, if_true]
  exact h σ2 h3
set_option maxHeartbeats 2000000 in
/-- comes -/
theorem law_b12 {i : Nat} {σ : mM} (hi : i + 6 ≤ L) (hL : L ≤ 3072) (hp : PairI Inv 116 209 [.inl (xs (i + 1)).toInt] σ) (h : ∀ σ2, Inv σ2 → LBlk L xs 34 i σ2) : LBlk L xs 12 i σ := by
  have e1 : w32 ((i : Int) + 1) = ((i + 1 : Nat) : Int) := by rw [w32_id (by omega) (by omega)]; omega
  refine LAt.blk rfl rfl (Nat.le_refl _) ?_
  simp only [RR, sc_ld, e1, Int.toNat_natCast, mj_is0, mj_is146, cond_true, sm0, true_and]
  refine ⟨⟨by omega, by omega⟩, ?_⟩
  refine cal_of rfl (hp.mono ?_)
  rintro r σ1 ⟨v, rfl, h2⟩
  simp only [RR, sc_ld, e1, Int.toNat_natCast, mj_is0, mj_is146, cond_true, sm0, sm1, sm1l, toList_some, true_and]
  refine ⟨⟨by omega, by omega⟩, ?_⟩
  refine cal_of rfl (h2.mono ?_)
  rintro r2 σ2 ⟨rfl, h3⟩
  simp only [RR, toList_some, if_true]
  exact h σ2 h3
set_option maxHeartbeats 2000000 in
/-- self -/
theorem law_b13 {i : Nat} {σ : mM} (hi : i + 6 ≤ L) (hL : L ≤ 3072) (hp : PairI Inv 117 211 [.inl (xs (i + 1)).toInt] σ) (h : ∀ σ2, Inv σ2 → LBlk L xs 34 i σ2) : LBlk L xs 13 i σ := by
  have e1 : w32 ((i : Int) + 1) = ((i + 1 : Nat) : Int) := by rw [w32_id (by omega) (by omega)]; omega
  refine LAt.blk rfl rfl (Nat.le_refl _) ?_
  simp only [RR, sc_ld, e1, Int.toNat_natCast, mj_is0, mj_is146, cond_true, sm0, true_and]
  refine ⟨⟨by omega, by omega⟩, ?_⟩
  refine cal_of rfl (hp.mono ?_)
  rintro r σ1 ⟨v, rfl, h2⟩
  simp only [RR, sc_ld, e1, Int.toNat_natCast, mj_is0, mj_is146, cond_true, sm0, sm1, sm1l, toList_some, true_and]
  refine ⟨⟨by omega, by omega⟩, ?_⟩
  refine cal_of rfl (h2.mono ?_)
  rintro r2 σ2 ⟨rfl, h3⟩
  simp only [RR, toList_some, if_true]
  exact h σ2 h3
set_option maxHeartbeats 2000000 in
/-- say -/
theorem law_b14 {i : Nat} {σ : mM} (hi : i + 6 ≤ L) (hL : L ≤ 3072) (hp : PairI Inv 118 212 [.inl (xs (i + 1)).toInt, .inl (xs (i + 2)).toInt, .inl (xs (i + 3)).toInt] σ) (h : ∀ σ2, Inv σ2 → LBlk L xs 34 i σ2) : LBlk L xs 14 i σ := by
  have e1 : w32 ((i : Int) + 1) = ((i + 1 : Nat) : Int) := by rw [w32_id (by omega) (by omega)]; omega
  have e2 : w32 ((i : Int) + 2) = ((i + 2 : Nat) : Int) := by rw [w32_id (by omega) (by omega)]; omega
  have e3 : w32 ((i : Int) + 3) = ((i + 3 : Nat) : Int) := by rw [w32_id (by omega) (by omega)]; omega
  refine LAt.blk rfl rfl (Nat.le_refl _) ?_
  simp only [RR, sc_ld, e1, e2, e3, Int.toNat_natCast, mj_is0, mj_is146, cond_true, sm0, true_and]
  refine ⟨⟨by omega, by omega⟩, ⟨⟨by omega, by omega⟩, ⟨⟨by omega, by omega⟩, ?_⟩⟩⟩
  refine cal_of rfl (hp.mono ?_)
  rintro r σ1 ⟨v, rfl, h2⟩
  simp only [RR, sc_ld, e1, e2, e3, Int.toNat_natCast, mj_is0, mj_is146, cond_true, sm0, sm1, sm1l, toList_some, true_and]
  refine ⟨⟨by omega, by omega⟩, ⟨⟨by omega, by omega⟩, ⟨⟨by omega, by omega⟩, ?_⟩⟩⟩
  refine cal_of rfl (h2.mono ?_)
  rintro r2 σ2 ⟨rfl, h3⟩
  simp only [RR, toList_some, if_true]
  exact h σ2 h3
set_option maxHeartbeats 2000000 in
/-- aunts -/
theorem law_b15 {i : Nat} {σ : mM} (hi : i + 6 ≤ L) (hL : L ≤ 3072) (hp : PairI Inv 119 214 [.inl (xs (i + 1)).toInt, .inl (xs (i + 2)).toInt] σ) (h : ∀ σ2, Inv σ2 → LBlk L xs 34 i σ2) : LBlk L xs 15 i σ := by
  have e1 : w32 ((i : Int) + 1) = ((i + 1 : Nat) : Int) := by rw [w32_id (by omega) (by omega)]; omega
  have e2 : w32 ((i : Int) + 2) = ((i + 2 : Nat) : Int) := by rw [w32_id (by omega) (by omega)]; omega
  refine LAt.blk rfl rfl (Nat.le_refl _) ?_
  simp only [RR, sc_ld, e1, e2, Int.toNat_natCast, mj_is0, mj_is146, cond_true, sm0, true_and]
  refine ⟨⟨by omega, by omega⟩, ⟨⟨by omega, by omega⟩, ?_⟩⟩
  refine cal_of rfl (hp.mono ?_)
  rintro r σ1 ⟨v, rfl, h2⟩
  simp only [RR, sc_ld, e1, e2, Int.toNat_natCast, mj_is0, mj_is146, cond_true, sm0, sm1, sm1l, toList_some, true_and]
  refine ⟨⟨by omega, by omega⟩, ⟨⟨by omega, by omega⟩, ?_⟩⟩
  refine cal_of rfl (h2.mono ?_)
  rintro r2 σ2 ⟨rfl, h3⟩
  simp only [RR, toList_some, if_true]
  exact h σ2 h3
set_option maxHeartbeats 2000000 in
/-- right -/
theorem law_b16 {i : Nat} {σ : mM} (hi : i + 6 ≤ L) (hL : L ≤ 3072) (hp : PairI Inv 120 215 [.inl (xs (i + 1)).toInt, .inl (xs (i + 2)).toInt] σ) (h : ∀ σ2, Inv σ2 → LBlk L xs 34 i σ2) : LBlk L xs 16 i σ := by
  have e1 : w32 ((i : Int) + 1) = ((i + 1 : Nat) : Int) := by rw [w32_id (by omega) (by omega)]; omega
  have e2 : w32 ((i : Int) + 2) = ((i + 2 : Nat) : Int) := by rw [w32_id (by omega) (by omega)]; omega
  refine LAt.blk rfl rfl (Nat.le_refl _) ?_
  simp only [RR, sc_ld, e1, e2, Int.toNat_natCast, mj_is0, mj_is146, cond_true, sm0, true_and]
  refine ⟨⟨by omega, by omega⟩, ⟨⟨by omega, by omega⟩, ?_⟩⟩
  refine cal_of rfl (hp.mono ?_)
  rintro r σ1 ⟨v, rfl, h2⟩
  simp only [RR, sc_ld, e1, e2, Int.toNat_natCast, mj_is0, mj_is146, cond_true, sm0, sm1, sm1l, toList_some, true_and]
  refine ⟨⟨by omega, by omega⟩, ⟨⟨by omega, by omega⟩, ?_⟩⟩
  refine cal_of rfl (h2.mono ?_)
  rintro r2 σ2 ⟨rfl, h3⟩
  simp only [RR, toList_some, if_true]
  exact h σ2 h3
set_option maxHeartbeats 2000000 in
/-- rest -/
theorem law_b17 {i : Nat} {σ : mM} (hi : i + 6 ≤ L) (hL : L ≤ 3072) (hp : PairI Inv 121 218 [.inl (xs (i + 1)).toInt] σ) (h : ∀ σ2, Inv σ2 → LBlk L xs 34 i σ2) : LBlk L xs 17 i σ := by
  have e1 : w32 ((i : Int) + 1) = ((i + 1 : Nat) : Int) := by rw [w32_id (by omega) (by omega)]; omega
  refine LAt.blk rfl rfl (Nat.le_refl _) ?_
  simp only [RR, sc_ld, e1, Int.toNat_natCast, mj_is0, mj_is146, cond_true, sm0, true_and]
  refine ⟨⟨by omega, by omega⟩, ?_⟩
  refine cal_of rfl (hp.mono ?_)
  rintro r σ1 ⟨v, rfl, h2⟩
  simp only [RR, sc_ld, e1, Int.toNat_natCast, mj_is0, mj_is146, cond_true, sm0, sm1, sm1l, toList_some, true_and]
  refine ⟨⟨by omega, by omega⟩, ?_⟩
  refine cal_of rfl (h2.mono ?_)
  rintro r2 σ2 ⟨rfl, h3⟩
  simp only [RR, toList_some, if_true]
  exact h σ2 h3
set_option maxHeartbeats 2000000 in
/-- see -/
theorem law_b18 {i : Nat} {σ : mM} (hi : i + 6 ≤ L) (hL : L ≤ 3072) (hp : PairI Inv 122 220 [] σ) (h : ∀ σ2, Inv σ2 → LBlk L xs 34 i σ2) : LBlk L xs 18 i σ := by
  refine LAt.blk rfl rfl (Nat.le_refl _) ?_
  simp only [RR, sc_ld, Int.toNat_natCast, mj_is0, mj_is146, cond_true, sm0, true_and]
  skip
  refine cal_of rfl (hp.mono ?_)
  rintro r σ1 ⟨v, rfl, h2⟩
  simp only [RR, sc_ld, Int.toNat_natCast, mj_is0, mj_is146, cond_true, sm0, sm1, sm1l, toList_some, true_and]
  skip
  refine cal_of rfl (h2.mono ?_)
  rintro r2 σ2 ⟨rfl, h3⟩
  simp only [RR, toList_some, if_true]
  exact h σ2 h3
set_option maxHeartbeats 2000000 in
/-- fits -/
theorem law_b19 {i : Nat} {σ : mM} (hi : i + 6 ≤ L) (hL : L ≤ 3072) (hp : PairI Inv 123 223 [.inl (xs (i + 1)).toInt] σ) (h : ∀ σ2, Inv σ2 → LBlk L xs 34 i σ2) : LBlk L xs 19 i σ := by
  have e1 : w32 ((i : Int) + 1) = ((i + 1 : Nat) : Int) := by rw [w32_id (by omega) (by omega)]; omega
  refine LAt.blk rfl rfl (Nat.le_refl _) ?_
  simp only [RR, sc_ld, e1, Int.toNat_natCast, mj_is0, mj_is146, cond_true, sm0, true_and]
  refine ⟨⟨by omega, by omega⟩, ?_⟩
  refine cal_of rfl (hp.mono ?_)
  rintro r σ1 ⟨v, rfl, h2⟩
  simp only [RR, sc_ld, e1, Int.toNat_natCast, mj_is0, mj_is146, cond_true, sm0, sm1, sm1l, toList_some, true_and]
  refine ⟨⟨by omega, by omega⟩, ?_⟩
  refine cal_of rfl (h2.mono ?_)
  rintro r2 σ2 ⟨rfl, h3⟩
  simp only [RR, toList_some, if_true]
  exact h σ2 h3
set_option maxHeartbeats 2000000 in
/-- tells -/
theorem law_b20 {i : Nat} {σ : mM} (hi : i + 6 ≤ L) (hL : L ≤ 3072) (hp : PairI Inv 124 225 [.inl (xs (i + 1)).toInt, .inl (xs (i + 2)).toInt] σ) (h : ∀ σ2, Inv σ2 → LBlk L xs 34 i σ2) : LBlk L xs 20 i σ := by
  have e1 : w32 ((i : Int) + 1) = ((i + 1 : Nat) : Int) := by rw [w32_id (by omega) (by omega)]; omega
  have e2 : w32 ((i : Int) + 2) = ((i + 2 : Nat) : Int) := by rw [w32_id (by omega) (by omega)]; omega
  refine LAt.blk rfl rfl (Nat.le_refl _) ?_
  simp only [RR, sc_ld, e1, e2, Int.toNat_natCast, mj_is0, mj_is146, cond_true, sm0, true_and]
  refine ⟨⟨by omega, by omega⟩, ⟨⟨by omega, by omega⟩, ?_⟩⟩
  refine cal_of rfl (hp.mono ?_)
  rintro r σ1 ⟨v, rfl, h2⟩
  simp only [RR, sc_ld, e1, e2, Int.toNat_natCast, mj_is0, mj_is146, cond_true, sm0, sm1, sm1l, toList_some, true_and]
  refine ⟨⟨by omega, by omega⟩, ⟨⟨by omega, by omega⟩, ?_⟩⟩
  refine cal_of rfl (h2.mono ?_)
  rintro r2 σ2 ⟨rfl, h3⟩
  simp only [RR, toList_some, if_true]
  exact h σ2 h3
set_option maxHeartbeats 2000000 in
/-- read -/
theorem law_b21 {i : Nat} {σ : mM} (hi : i + 6 ≤ L) (hL : L ≤ 3072) (hp : PairI Inv 125 229 [.inl (xs (i + 1)).toInt, .inl (xs (i + 2)).toInt] σ) (h : ∀ σ2, Inv σ2 → LBlk L xs 34 i σ2) : LBlk L xs 21 i σ := by
  have e1 : w32 ((i : Int) + 1) = ((i + 1 : Nat) : Int) := by rw [w32_id (by omega) (by omega)]; omega
  have e2 : w32 ((i : Int) + 2) = ((i + 2 : Nat) : Int) := by rw [w32_id (by omega) (by omega)]; omega
  refine LAt.blk rfl rfl (Nat.le_refl _) ?_
  simp only [RR, sc_ld, e1, e2, Int.toNat_natCast, mj_is0, mj_is146, cond_true, sm0, true_and]
  refine ⟨⟨by omega, by omega⟩, ⟨⟨by omega, by omega⟩, ?_⟩⟩
  refine cal_of rfl (hp.mono ?_)
  rintro r σ1 ⟨v, rfl, h2⟩
  simp only [RR, sc_ld, e1, e2, Int.toNat_natCast, mj_is0, mj_is146, cond_true, sm0, sm1, sm1l, toList_some, true_and]
  refine ⟨⟨by omega, by omega⟩, ⟨⟨by omega, by omega⟩, ?_⟩⟩
  refine cal_of rfl (h2.mono ?_)
  rintro r2 σ2 ⟨rfl, h3⟩
  simp only [RR, toList_some, if_true]
  exact h σ2 h3
set_option maxHeartbeats 2000000 in
/-- hush -/
theorem law_b22 {i : Nat} {σ : mM} (hi : i + 6 ≤ L) (hL : L ≤ 3072) (hp : PairI Inv 126 230 [.inl (xs (i + 1)).toInt] σ) (h : ∀ σ2, Inv σ2 → LBlk L xs 34 i σ2) : LBlk L xs 22 i σ := by
  have e1 : w32 ((i : Int) + 1) = ((i + 1 : Nat) : Int) := by rw [w32_id (by omega) (by omega)]; omega
  refine LAt.blk rfl rfl (Nat.le_refl _) ?_
  simp only [RR, sc_ld, e1, Int.toNat_natCast, mj_is0, mj_is146, cond_true, sm0, true_and]
  refine ⟨⟨by omega, by omega⟩, ?_⟩
  refine cal_of rfl (hp.mono ?_)
  rintro r σ1 ⟨v, rfl, h2⟩
  simp only [RR, sc_ld, e1, Int.toNat_natCast, mj_is0, mj_is146, cond_true, sm0, sm1, sm1l, toList_some, true_and]
  refine ⟨⟨by omega, by omega⟩, ?_⟩
  refine cal_of rfl (h2.mono ?_)
  rintro r2 σ2 ⟨rfl, h3⟩
  simp only [RR, toList_some, if_true]
  exact h σ2 h3
set_option maxHeartbeats 2000000 in
/-- aunt -/
theorem law_b23 {i : Nat} {σ : mM} (hi : i + 6 ≤ L) (hL : L ≤ 3072) (hp : PairI Inv 127 231 [.inl (xs (i + 1)).toInt, .inl (xs (i + 2)).toInt] σ) (h : ∀ σ2, Inv σ2 → LBlk L xs 34 i σ2) : LBlk L xs 23 i σ := by
  have e1 : w32 ((i : Int) + 1) = ((i + 1 : Nat) : Int) := by rw [w32_id (by omega) (by omega)]; omega
  have e2 : w32 ((i : Int) + 2) = ((i + 2 : Nat) : Int) := by rw [w32_id (by omega) (by omega)]; omega
  refine LAt.blk rfl rfl (Nat.le_refl _) ?_
  simp only [RR, sc_ld, e1, e2, Int.toNat_natCast, mj_is0, mj_is146, cond_true, sm0, true_and]
  refine ⟨⟨by omega, by omega⟩, ⟨⟨by omega, by omega⟩, ?_⟩⟩
  refine cal_of rfl (hp.mono ?_)
  rintro r σ1 ⟨v, rfl, h2⟩
  simp only [RR, sc_ld, e1, e2, Int.toNat_natCast, mj_is0, mj_is146, cond_true, sm0, sm1, sm1l, toList_some, true_and]
  refine ⟨⟨by omega, by omega⟩, ⟨⟨by omega, by omega⟩, ?_⟩⟩
  refine cal_of rfl (h2.mono ?_)
  rintro r2 σ2 ⟨rfl, h3⟩
  simp only [RR, toList_some, if_true]
  exact h σ2 h3
set_option maxHeartbeats 2000000 in
/-- deaf -/
theorem law_b24 {i : Nat} {σ : mM} (hi : i + 6 ≤ L) (hL : L ≤ 3072) (hp : PairI Inv 128 232 [.inl (xs (i + 1)).toInt, .inl (xs (i + 2)).toInt] σ) (h : ∀ σ2, Inv σ2 → LBlk L xs 34 i σ2) : LBlk L xs 24 i σ := by
  have e1 : w32 ((i : Int) + 1) = ((i + 1 : Nat) : Int) := by rw [w32_id (by omega) (by omega)]; omega
  have e2 : w32 ((i : Int) + 2) = ((i + 2 : Nat) : Int) := by rw [w32_id (by omega) (by omega)]; omega
  refine LAt.blk rfl rfl (Nat.le_refl _) ?_
  simp only [RR, sc_ld, e1, e2, Int.toNat_natCast, mj_is0, mj_is146, cond_true, sm0, true_and]
  refine ⟨⟨by omega, by omega⟩, ⟨⟨by omega, by omega⟩, ?_⟩⟩
  refine cal_of rfl (hp.mono ?_)
  rintro r σ1 ⟨v, rfl, h2⟩
  simp only [RR, sc_ld, e1, e2, Int.toNat_natCast, mj_is0, mj_is146, cond_true, sm0, sm1, sm1l, toList_some, true_and]
  refine ⟨⟨by omega, by omega⟩, ⟨⟨by omega, by omega⟩, ?_⟩⟩
  refine cal_of rfl (h2.mono ?_)
  rintro r2 σ2 ⟨rfl, h3⟩
  simp only [RR, toList_some, if_true]
  exact h σ2 h3
set_option maxHeartbeats 2000000 in
/-- nights -/
theorem law_b25 {i : Nat} {σ : mM} (hi : i + 6 ≤ L) (hL : L ≤ 3072) (hp : PairI Inv 129 233 [.inl (xs (i + 1)).toInt] σ) (h : ∀ σ2, Inv σ2 → LBlk L xs 34 i σ2) : LBlk L xs 25 i σ := by
  have e1 : w32 ((i : Int) + 1) = ((i + 1 : Nat) : Int) := by rw [w32_id (by omega) (by omega)]; omega
  refine LAt.blk rfl rfl (Nat.le_refl _) ?_
  simp only [RR, sc_ld, e1, Int.toNat_natCast, mj_is0, mj_is146, cond_true, sm0, true_and]
  refine ⟨⟨by omega, by omega⟩, ?_⟩
  refine cal_of rfl (hp.mono ?_)
  rintro r σ1 ⟨v, rfl, h2⟩
  simp only [RR, sc_ld, e1, Int.toNat_natCast, mj_is0, mj_is146, cond_true, sm0, sm1, sm1l, toList_some, true_and]
  refine ⟨⟨by omega, by omega⟩, ?_⟩
  refine cal_of rfl (h2.mono ?_)
  rintro r2 σ2 ⟨rfl, h3⟩
  simp only [RR, toList_some, if_true]
  exact h σ2 h3
set_option maxHeartbeats 2000000 in
/-- chance -/
theorem law_b26 {i : Nat} {σ : mM} (hi : i + 6 ≤ L) (hL : L ≤ 3072) (hp : PairI Inv 130 236 [.inl (xs (i + 1)).toInt] σ) (h : ∀ σ2, Inv σ2 → LBlk L xs 34 i σ2) : LBlk L xs 26 i σ := by
  have e1 : w32 ((i : Int) + 1) = ((i + 1 : Nat) : Int) := by rw [w32_id (by omega) (by omega)]; omega
  refine LAt.blk rfl rfl (Nat.le_refl _) ?_
  simp only [RR, sc_ld, e1, Int.toNat_natCast, mj_is0, mj_is146, cond_true, sm0, true_and]
  refine ⟨⟨by omega, by omega⟩, ?_⟩
  refine cal_of rfl (hp.mono ?_)
  rintro r σ1 ⟨v, rfl, h2⟩
  simp only [RR, sc_ld, e1, Int.toNat_natCast, mj_is0, mj_is146, cond_true, sm0, sm1, sm1l, toList_some, true_and]
  refine ⟨⟨by omega, by omega⟩, ?_⟩
  refine cal_of rfl (h2.mono ?_)
  rintro r2 σ2 ⟨rfl, h3⟩
  simp only [RR, toList_some, if_true]
  exact h σ2 h3
set_option maxHeartbeats 2000000 in
/-- undo -/
theorem law_b27 {i : Nat} {σ : mM} (hi : i + 6 ≤ L) (hL : L ≤ 3072) (hp : PairI Inv 131 227 [] σ) (h : ∀ σ2, Inv σ2 → LBlk L xs 34 i σ2) : LBlk L xs 27 i σ := by
  refine LAt.blk rfl rfl (Nat.le_refl _) ?_
  simp only [RR, sc_ld, Int.toNat_natCast, mj_is0, mj_is146, cond_true, sm0, true_and]
  skip
  refine cal_of rfl (hp.mono ?_)
  rintro r σ1 ⟨v, rfl, h2⟩
  simp only [RR, sc_ld, Int.toNat_natCast, mj_is0, mj_is146, cond_true, sm0, sm1, sm1l, toList_some, true_and]
  skip
  refine cal_of rfl (h2.mono ?_)
  rintro r2 σ2 ⟨rfl, h3⟩
  simp only [RR, toList_some, if_true]
  exact h σ2 h3
set_option maxHeartbeats 2000000 in
/-- seed -/
theorem law_b28 {i : Nat} {σ : mM} (hi : i + 6 ≤ L) (hL : L ≤ 3072) (hp : PairI Inv 132 234 [.inl (xs (i + 1)).toInt] σ) (h : ∀ σ2, Inv σ2 → LBlk L xs 34 i σ2) : LBlk L xs 28 i σ := by
  have e1 : w32 ((i : Int) + 1) = ((i + 1 : Nat) : Int) := by rw [w32_id (by omega) (by omega)]; omega
  refine LAt.blk rfl rfl (Nat.le_refl _) ?_
  simp only [RR, sc_ld, e1, Int.toNat_natCast, mj_is0, mj_is146, cond_true, sm0, true_and]
  refine ⟨⟨by omega, by omega⟩, ?_⟩
  refine cal_of rfl (hp.mono ?_)
  rintro r σ1 ⟨v, rfl, h2⟩
  simp only [RR, sc_ld, e1, Int.toNat_natCast, mj_is0, mj_is146, cond_true, sm0, sm1, sm1l, toList_some, true_and]
  refine ⟨⟨by omega, by omega⟩, ?_⟩
  refine cal_of rfl (h2.mono ?_)
  rintro r2 σ2 ⟨rfl, h3⟩
  simp only [RR, toList_some, if_true]
  exact h σ2 h3
set_option maxHeartbeats 2000000 in
/-- ask -/
theorem law_b29 {i : Nat} {σ : mM} (hi : i + 6 ≤ L) (hL : L ≤ 3072) (hp : PairL Inv 133 265 [] σ) (h : ∀ σ2, Inv σ2 → LBlk L xs 34 i σ2) : LBlk L xs 29 i σ := by
  refine LAt.blk rfl rfl (Nat.le_refl _) ?_
  simp only [RR, sc_ld, Int.toNat_natCast, mj_is0, mj_is146, cond_true, sm0, true_and]
  skip
  refine cal_of rfl (hp.mono ?_)
  rintro r σ1 ⟨v, rfl, h2⟩
  simp only [RR, sc_ld, Int.toNat_natCast, mj_is0, mj_is146, cond_true, sm0, sm1, sm1l, toList_some, true_and]
  skip
  refine cal_of rfl (h2.mono ?_)
  rintro r2 σ2 ⟨rfl, h3⟩
  simp only [RR, toList_some, if_true, l_cmp_self]
  exact h σ2 h3
set_option maxHeartbeats 2000000 in
/-- image -/
theorem law_b30 {i : Nat} {σ : mM} (hi : i + 6 ≤ L) (hL : L ≤ 3072) (hp : PairI Inv 134 268 [] σ) (h : ∀ σ2, Inv σ2 → LBlk L xs 34 i σ2) : LBlk L xs 30 i σ := by
  refine LAt.blk rfl rfl (Nat.le_refl _) ?_
  simp only [RR, sc_ld, Int.toNat_natCast, mj_is0, mj_is146, cond_true, sm0, true_and]
  skip
  refine cal_of rfl (hp.mono ?_)
  rintro r σ1 ⟨v, rfl, h2⟩
  simp only [RR, sc_ld, Int.toNat_natCast, mj_is0, mj_is146, cond_true, sm0, sm1, sm1l, toList_some, true_and]
  skip
  refine cal_of rfl (h2.mono ?_)
  rintro r2 σ2 ⟨rfl, h3⟩
  simp only [RR, toList_some, if_true]
  exact h σ2 h3
set_option maxHeartbeats 2000000 in
/-- octet -/
theorem law_b31 {i : Nat} {σ : mM} (hi : i + 6 ≤ L) (hL : L ≤ 3072) (hp : PairI Inv 135 269 [.inl (xs (i + 1)).toInt] σ) (h : ∀ σ2, Inv σ2 → LBlk L xs 34 i σ2) : LBlk L xs 31 i σ := by
  have e1 : w32 ((i : Int) + 1) = ((i + 1 : Nat) : Int) := by rw [w32_id (by omega) (by omega)]; omega
  refine LAt.blk rfl rfl (Nat.le_refl _) ?_
  simp only [RR, sc_ld, e1, Int.toNat_natCast, mj_is0, mj_is146, cond_true, sm0, true_and]
  refine ⟨⟨by omega, by omega⟩, ?_⟩
  refine cal_of rfl (hp.mono ?_)
  rintro r σ1 ⟨v, rfl, h2⟩
  simp only [RR, sc_ld, e1, Int.toNat_natCast, mj_is0, mj_is146, cond_true, sm0, sm1, sm1l, toList_some, true_and]
  refine ⟨⟨by omega, by omega⟩, ?_⟩
  refine cal_of rfl (h2.mono ?_)
  rintro r2 σ2 ⟨rfl, h3⟩
  simp only [RR, toList_some, if_true]
  exact h σ2 h3
set_option maxHeartbeats 2000000 in
/-- on -/
theorem law_b32 {i : Nat} {σ : mM} (hi : i + 6 ≤ L) (hL : L ≤ 3072) (hp : PairI Inv 136 271 [] σ) (h : ∀ σ2, Inv σ2 → LBlk L xs 34 i σ2) : LBlk L xs 32 i σ := by
  refine LAt.blk rfl rfl (Nat.le_refl _) ?_
  simp only [RR, sc_ld, Int.toNat_natCast, mj_is0, mj_is146, cond_true, sm0, true_and]
  skip
  refine cal_of rfl (hp.mono ?_)
  rintro r σ1 ⟨v, rfl, h2⟩
  simp only [RR, sc_ld, Int.toNat_natCast, mj_is0, mj_is146, cond_true, sm0, sm1, sm1l, toList_some, true_and]
  skip
  refine cal_of rfl (h2.mono ?_)
  rintro r2 σ2 ⟨rfl, h3⟩
  simp only [RR, toList_some, if_true]
  exact h σ2 h3
set_option maxHeartbeats 2000000 in
/-- status -/
theorem law_b33 {i : Nat} {σ : mM} (hi : i + 6 ≤ L) (hL : L ≤ 3072) (hp : PairI Inv 137 272 [.inl (xs (i + 1)).toInt] σ) (h : ∀ σ2, Inv σ2 → LBlk L xs 34 i σ2) : LBlk L xs 33 i σ := by
  have e1 : w32 ((i : Int) + 1) = ((i + 1 : Nat) : Int) := by rw [w32_id (by omega) (by omega)]; omega
  refine LAt.blk rfl rfl (Nat.le_refl _) ?_
  simp only [RR, sc_ld, e1, Int.toNat_natCast, mj_is0, mj_is146, cond_true, sm0, true_and]
  refine ⟨⟨by omega, by omega⟩, ?_⟩
  refine cal_of rfl (hp.mono ?_)
  rintro r σ1 ⟨v, rfl, h2⟩
  simp only [RR, sc_ld, e1, Int.toNat_natCast, mj_is0, mj_is146, cond_true, sm0, sm1, sm1l, toList_some, true_and]
  refine ⟨⟨by omega, by omega⟩, ?_⟩
  refine cal_of rfl (h2.mono ?_)
  rintro r2 σ2 ⟨rfl, h3⟩
  simp only [RR, toList_some, if_true]
  exact h σ2 h3
theorem sw_and (x : Int32) : ∃ j : Nat, j < 32 ∧ i_and x.toInt 31 = (j : Int) := by
  obtain ⟨j, h1, h2⟩ := pk_andE x (m := 31) 5 (by decide)
  refine ⟨j, h1, ?_⟩
  unfold i_and
  rw [mj_of, show Int32.ofInt 31 = 31 from rfl, h2, nI_toInt (by omega)]
set_option maxHeartbeats 4000000 in
theorem law_body {i : Nat} {σ : mM} (hi : i + 6 ≤ L) (hL : L ≤ 3072) (hA : AllPairs Inv σ) (h34 : ∀ σ2, Inv σ2 → LBlk L xs 34 i σ2) : LHead L xs i σ := by
  have e0 : w32 ((L : Int) - 6) = (L : Int) - 6 := w32_id (by omega) (by omega)
  obtain ⟨j, hj, ej⟩ := sw_and (xs i)
  refine LAt.blk rfl rfl (Nat.le_refl _) ?_
  simp only [RR, sc_len, sc_ld, e0, Int.toNat_natCast, ej]
  rw [if_neg (by omega)]
  refine ⟨⟨by omega, by omega⟩, ?_⟩
  rcases (show j = 0 ∨ j = 1 ∨ j = 2 ∨ j = 3 ∨ j = 4 ∨ j = 5 ∨ j = 6 ∨ j = 7 ∨ j = 8 ∨ j = 9 ∨ j = 10 ∨ j = 11 ∨ j = 12 ∨ j = 13 ∨ j = 14 ∨ j = 15 ∨ j = 16 ∨ j = 17 ∨ j = 18 ∨ j = 19 ∨ j = 20 ∨ j = 21 ∨ j = 22 ∨ j = 23 ∨ j = 24 ∨ j = 25 ∨ j = 26 ∨ j = 27 ∨ j = 28 ∨ j = 29 ∨ j = 30 ∨ j = 31 by omega) with rfl | rfl | rfl | rfl | rfl | rfl | rfl | rfl | rfl | rfl | rfl | rfl | rfl | rfl | rfl | rfl | rfl | rfl | rfl | rfl | rfl | rfl | rfl | rfl | rfl | rfl | rfl | rfl | rfl | rfl | rfl | rfl
  · exact law_b2 hi hL (hA.1 _ _ _ _ _ (mj_inR _) (mj_inR _) (mj_inR _) (mj_inR _) (mj_inR _)) h34
  · exact law_b3 hi hL (hA.2.1 _ (mj_inR _)) h34
  · exact law_b4 hi hL hA.2.2.1 h34
  · exact law_b5 hi hL (hA.2.2.2.1 _ (mj_inR _)) h34
  · exact law_b6 hi hL (hA.2.2.2.2.1 _ (mj_inR _)) h34
  · exact law_b7 hi hL (hA.2.2.2.2.2.1 _ _ (mj_inR _) (mj_inR _)) h34
  · exact law_b8 hi hL (hA.2.2.2.2.2.2.1 _ _ (mj_inR _) (mj_inR _)) h34
  · exact law_b9 hi hL (hA.2.2.2.2.2.2.2.1 _ _ (mj_inR _) (mj_inR _)) h34
  · exact law_b10 hi hL (hA.2.2.2.2.2.2.2.2.1 _ _ (mj_inR _) (mj_inR _)) h34
  · exact law_b11 hi hL (hA.2.2.2.2.2.2.2.2.2.1 _ _ _ (mj_inR _) (mj_inR _) (mj_inR _)) h34
  · exact law_b12 hi hL (hA.2.2.2.2.2.2.2.2.2.2.1 _ (mj_inR _)) h34
  · exact law_b13 hi hL (hA.2.2.2.2.2.2.2.2.2.2.2.1 _ (mj_inR _)) h34
  · exact law_b14 hi hL (hA.2.2.2.2.2.2.2.2.2.2.2.2.1 _ _ _ (mj_inR _) (mj_inR _) (mj_inR _)) h34
  · exact law_b15 hi hL (hA.2.2.2.2.2.2.2.2.2.2.2.2.2.1 _ _ (mj_inR _) (mj_inR _)) h34
  · exact law_b16 hi hL (hA.2.2.2.2.2.2.2.2.2.2.2.2.2.2.1 _ _ (mj_inR _) (mj_inR _)) h34
  · exact law_b17 hi hL (hA.2.2.2.2.2.2.2.2.2.2.2.2.2.2.2.1 _ (mj_inR _)) h34
  · exact law_b18 hi hL hA.2.2.2.2.2.2.2.2.2.2.2.2.2.2.2.2.1 h34
  · exact law_b19 hi hL (hA.2.2.2.2.2.2.2.2.2.2.2.2.2.2.2.2.2.1 _ (mj_inR _)) h34
  · exact law_b20 hi hL (hA.2.2.2.2.2.2.2.2.2.2.2.2.2.2.2.2.2.2.1 _ _ (mj_inR _) (mj_inR _)) h34
  · exact law_b21 hi hL (hA.2.2.2.2.2.2.2.2.2.2.2.2.2.2.2.2.2.2.2.1 _ _ (mj_inR _) (mj_inR _)) h34
  · exact law_b22 hi hL (hA.2.2.2.2.2.2.2.2.2.2.2.2.2.2.2.2.2.2.2.2.1 _ (mj_inR _)) h34
  · exact law_b23 hi hL (hA.2.2.2.2.2.2.2.2.2.2.2.2.2.2.2.2.2.2.2.2.2.1 _ _ (mj_inR _) (mj_inR _)) h34
  · exact law_b24 hi hL (hA.2.2.2.2.2.2.2.2.2.2.2.2.2.2.2.2.2.2.2.2.2.2.1 _ _ (mj_inR _) (mj_inR _)) h34
  · exact law_b25 hi hL (hA.2.2.2.2.2.2.2.2.2.2.2.2.2.2.2.2.2.2.2.2.2.2.2.1 _ (mj_inR _)) h34
  · exact law_b26 hi hL (hA.2.2.2.2.2.2.2.2.2.2.2.2.2.2.2.2.2.2.2.2.2.2.2.2.1 _ (mj_inR _)) h34
  · exact law_b27 hi hL hA.2.2.2.2.2.2.2.2.2.2.2.2.2.2.2.2.2.2.2.2.2.2.2.2.2.1 h34
  · exact law_b28 hi hL (hA.2.2.2.2.2.2.2.2.2.2.2.2.2.2.2.2.2.2.2.2.2.2.2.2.2.2.1 _ (mj_inR _)) h34
  · exact law_b29 hi hL hA.2.2.2.2.2.2.2.2.2.2.2.2.2.2.2.2.2.2.2.2.2.2.2.2.2.2.2.1 h34
  · exact law_b30 hi hL hA.2.2.2.2.2.2.2.2.2.2.2.2.2.2.2.2.2.2.2.2.2.2.2.2.2.2.2.2.1 h34
  · exact law_b31 hi hL (hA.2.2.2.2.2.2.2.2.2.2.2.2.2.2.2.2.2.2.2.2.2.2.2.2.2.2.2.2.2.1 _ (mj_inR _)) h34
  · exact law_b32 hi hL hA.2.2.2.2.2.2.2.2.2.2.2.2.2.2.2.2.2.2.2.2.2.2.2.2.2.2.2.2.2.2.1 h34
  · exact law_b33 hi hL (hA.2.2.2.2.2.2.2.2.2.2.2.2.2.2.2.2.2.2.2.2.2.2.2.2.2.2.2.2.2.2.2 _ (mj_inR _)) h34
theorem law_loop (hL : L ≤ 3072) (hA : ∀ σ, Inv σ → AllPairs Inv σ) : ∀ (n i : Nat) (σ : mM), L < i + 6 * n + 6 → Inv σ → i ≤ 4000 → LHead L xs i σ := by
  intro n
  induction n with
  | zero =>
    intro i σ hn hI hi
    have e0 : w32 ((L : Int) - 6) = (L : Int) - 6 := w32_id (by omega) (by omega)
    refine LAt.blk rfl rfl (Nat.le_refl _) ?_
    simp only [RR, sc_len, e0]
    rw [if_pos (by omega)]
    refine LAt.blk rfl rfl (Nat.le_refl _) ?_
    simp only [RR]
    exact ⟨Or.inr trivial, trivial⟩
  | succ n ih =>
    intro i σ hn hI hi
    by_cases h : i + 6 ≤ L
    · refine law_body h hL (hA σ hI) (fun σ2 h2 => ?_)
      have e6 : w32 ((i : Int) + 6) = ((i + 6 : Nat) : Int) := by rw [w32_id (by omega) (by omega)]; omega
      refine LAt.blk rfl rfl (Nat.le_refl _) ?_
      simp only [RR, e6]
      exact ih (i + 6) σ2 (by omega) h2 (by omega)
    · have e0 : w32 ((L : Int) - 6) = (L : Int) - 6 := w32_id (by omega) (by omega)
      refine LAt.blk rfl rfl (Nat.le_refl _) ?_
      simp only [RR, sc_len, e0]
      rw [if_pos (by omega)]
      refine LAt.blk rfl rfl (Nat.le_refl _) ?_
      simp only [RR]
      exact ⟨Or.inr trivial, trivial⟩
end
