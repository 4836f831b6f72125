theorem tys_hts : ∀ (cs : List Int) (ts ts' : List Bool), tys cs ts = some ts' → hts 64 cs ts.length = some ts'.length
  | [], ts, ts', h => by cases h; rfl
  | c :: cs, ts, ts', h => by
    simp only [tys] at h
    cases e : tyC c ts with
    | none => rw [e] at h; cases h
    | some ts1 =>
      rw [e] at h
      have ih := tys_hts cs ts1 ts' h
      simp only [hts]
      rcases tyC_some e with ⟨h1, h2, rfl⟩ | ⟨rfl, s, rfl, rfl⟩ | ⟨h1, h2, rfl⟩ | ⟨rfl, h2, rfl⟩ | ⟨rfl, s, rfl, rfl⟩ | ⟨h1, s, rfl, rfl⟩ | ⟨h1, s, rfl, rfl⟩ | ⟨h1, s, rfl, rfl⟩
      · rw [if_pos (by omega), if_pos h2]; exact ih
      · rw [if_neg (by omega), if_pos (by omega), if_pos (by simp only [List.length_cons]; omega)]; exact ih
      · rw [if_pos (by omega), if_pos h2]; exact ih
      · rw [if_pos (by omega), if_pos h2]; exact ih
      · rw [if_neg (by omega), if_pos (by omega), if_pos (by simp only [List.length_cons]; omega)]; exact ih
      all_goals
        rw [if_neg (by omega), if_neg (by omega), if_pos (by simp only [List.length_cons]; omega)]
        exact ih
theorem StepR.city {u tk s c : Int} (h : StepR s c) (hc : CdS tk [c]) (ht : tk ≠ 2) (hu : u = if tk = 0 then 5 else 6) : CStepR u s c := by
  rcases hc c List.mem_cons_self with h1 | ⟨h1, h2⟩ | h1 | h1
  · rcases h with h | h | h | h | h | h
    · exact Or.inl h
    · omega
    · obtain ⟨k, _⟩ := h; omega
    · omega
    · omega
    · obtain ⟨k, _⟩ := h; omega
  · have h3 : c - 40 < u := by
      rcases h2 with h2 | h2
      · exact absurd h2 ht
      · rw [hu]; omega
    rcases h with h | h | h | h | h | h
    · obtain ⟨v, _⟩ := h; omega
    · omega
    · obtain ⟨k, k1, k2, k3⟩ := h
      exact Or.inr (Or.inl ⟨k, by omega, k2, k3⟩)
    · omega
    · omega
    · obtain ⟨k, _⟩ := h; omega
  · rcases h with h | h | h | h | h | h
    · obtain ⟨v, _⟩ := h; omega
    · omega
    · obtain ⟨k, _⟩ := h; omega
    · omega
    · omega
    · obtain ⟨k, k1, k2, k3⟩ := h
      exact Or.inr (Or.inr ⟨k, by omega, k2, k3⟩)
  · exact absurd h1.1 ht
theorem RuleR.cgE {σ σ' : mM} {r : Nat} (h : RuleR σ r) (e1 : σ' 9 = σ 9) (e2 : σ' 10 = σ 10) (e3 : σ' 8 = σ 8) (e4 : σ' 179 (3 + r) = σ 179 (3 + r)) (e5 : σ' 180 (3 + r) = σ 180 (3 + r)) (e6 : ∀ j, j < 1600 → σ' 181 (1600 + j) = σ 181 (1600 + j)) : RuleR σ' r := by
  obtain ⟨h1, h2⟩ := h
  unfold RuleR
  rw [e1, e2, e3, e4, e5]
  refine ⟨h1, ?_⟩
  rcases h2 with h2 | ⟨a1, a2, a3, a4⟩
  · exact Or.inl h2
  · refine Or.inr ⟨a1, a2, fun j hj => ?_, ?_⟩
    · rw [e6 _ (by omega)]
      exact a3 j hj
    · rw [← a4]
      congr 1
      unfold codesOf
      refine List.map_congr_left (fun j hj => ?_)
      rw [List.mem_range] at hj
      rw [Nat.add_assoc]
      exact e6 _ (by omega)
theorem IvC.cgE {σ σ' : mM} (h : IvC σ) (e1 : σ' 173 2 = σ 173 2) (e1b : σ' 173 3 = σ 173 3) (e2 : σ' 3 = σ 3) (e3 : σ' 178 2 = σ 178 2) (e3b : σ' 178 3 = σ 178 3) (e4 : σ' 4 = σ 4) (e5 : ∀ p, p < 7 → σ' 174 (7 + p) = σ 174 (7 + p)) (e6 : ∀ p, p < 7 → σ' 176 (7 + p) = σ 176 (7 + p)) (e7 : σ' 6 = σ 6) (f1 : σ' 9 = σ 9) (f2 : σ' 10 = σ 10) (f3 : σ' 8 = σ 8) (f4 : ∀ r, r < 3 → σ' 179 (3 + r) = σ 179 (3 + r)) (f5 : ∀ r, r < 3 → σ' 180 (3 + r) = σ 180 (3 + r)) (f6 : ∀ j, j < 1600 → σ' 181 (1600 + j) = σ 181 (1600 + j)) : IvC σ' := by
  obtain ⟨h1, h2, h3, h4, h5, h6⟩ := h
  unfold IvC
  rw [e1, e1b, e2, e3, e3b, e4, e7]
  refine ⟨h1, h2, h3, h4, fun p hp => ?_, fun r hr => (h6 r hr).cgE f1 f2 f3 (f4 r hr) (f5 r hr) f6⟩
  rw [e5 p (by omega), e6 p (by omega)]
  exact h5 p hp
