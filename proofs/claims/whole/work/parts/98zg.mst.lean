def cmU : List (Nat × Nat) := [(146, 2), (146, 4), (146, 5), (146, 6), (146, 34), (146, 44), (146, 45), (146, 46), (146, 89), (146, 91), (146, 92), (146, 93)]
/-- what becomes of a statement, without its end sign -/
def cyJ (N : Nat) (t : Nat → Int) (s : Nat) (σ μ : mM) (K : Option mV → mM → Prop) : Prop := (∃ s2 g2 τ, cyS N t s σ s2 g2 τ ∧ cyG N t μ s2 g2 τ K) ∨ (∃ k x, cySx N t s σ k x ∧ cyH μ k x K)
section
variable {d : Nat} {σ μ μ1 : mM} {K : Option mV → mM → Prop} {N : Nat} {t : Nat → Int} {s : Nat}
theorem cyJ.at {w e s1 : Nat} (h : cyJ N t s σ μ K) (hw : cyW w) (hi : IsWd N t s false e w) (hk : Skp N t e s1) (f : cyK cmT μ μ1) : (∃ s' g' τ, cyB w N t s1 (decide (s1 = e)) σ s' g' τ ∧ s1 ≤ s' ∧ cyG N t μ1 s' g' τ K) ∨ (∃ k x, cyC w N t s s1 (decide (s1 = e)) σ k x ∧ k ≠ 0 ∧ cyH μ1 k x K) := by
  have w27 : w < 27 := by unfold cyW at hw; omega
  rcases h with ⟨s2, g2, τ, ⟨w', e', s1', h1, h2, h3, h4⟩, hG⟩ | ⟨k, x, hx, hH⟩
  · have w27' : w' < 27 := by
      rcases h4 with ⟨h, _⟩ | ⟨h, _⟩ | ⟨h, _⟩ | ⟨h, _⟩ | ⟨h, _⟩ | ⟨h, _⟩ | ⟨h, _⟩ | ⟨h, _⟩ | ⟨h, _⟩ <;> omega
    obtain ⟨rfl, rfl⟩ := h1.uniq hi w27' w27
    obtain rfl := h2.uniq hk
    exact Or.inl ⟨s2, g2, τ, h4, h3, hG.go f⟩
  · have hne := hx.ne
    rcases hx with ⟨-, -, h⟩ | ⟨w', e', s1', h1, h2, h4⟩
    · exact absurd hi (h w hw e)
    · have w27' : w' < 27 := by
        rcases h4 with ⟨h, _⟩ | ⟨h, _⟩ | ⟨h, _⟩ | ⟨h, _⟩ | ⟨h, _⟩ | ⟨h, _⟩ | ⟨h, _⟩ | ⟨h, _⟩ | ⟨h, _⟩ <;> omega
      obtain ⟨rfl, rfl⟩ := h1.uniq hi w27' w27
      obtain rfl := h2.uniq hk
      exact Or.inr ⟨k, x, h4, hne, hH.go f⟩
theorem cyJ.none (h : cyJ N t s σ μ K) (hn : ∀ w, cyW w → ∀ e, ¬IsWd N t s false e w) : cyH μ 1 (s : Int) K := by
  rcases h with ⟨s2, g2, τ, ⟨w', e', s1', h1, h2, h3, h4⟩, hG⟩ | ⟨k, x, hx, hH⟩
  · have : cyW w' := by
      unfold cyW
      rcases h4 with ⟨h, _⟩ | ⟨h, _⟩ | ⟨h, _⟩ | ⟨h, _⟩ | ⟨h, _⟩ | ⟨h, _⟩ | ⟨h, _⟩ | ⟨h, _⟩ | ⟨h, _⟩ <;> omega
    exact absurd h1 (hn w' this e')
  · rcases hx with ⟨rfl, rfl, _⟩ | ⟨w', e', s1', h1, h2, h4⟩
    · exact hH
    · have : cyW w' := by
        unfold cyW
        rcases h4 with ⟨h, _⟩ | ⟨h, _⟩ | ⟨h, _⟩ | ⟨h, _⟩ | ⟨h, _⟩ | ⟨h, _⟩ | ⟨h, _⟩ | ⟨h, _⟩ | ⟨h, _⟩ <;> omega
      exact absurd h1 (hn w' this e')
theorem cyB_0 {s s' : Nat} {g g' : Bool} {τ : mM} (h : cyB 0 N t s g σ s' g' τ) : (cyPa N t) s g σ s' g' τ := by
  rcases h with ⟨h0, h⟩ | ⟨h0, h⟩ | ⟨h0, h⟩ | ⟨h0, h⟩ | ⟨h0, h⟩ | ⟨h0, h⟩ | ⟨h0, h⟩ | ⟨h0, h⟩ | ⟨h0, h⟩
  all_goals first | exact h | (exfalso; omega)
theorem cyC_0 {s0 s : Nat} {g : Bool} {k x : Int} (h : cyC 0 N t s0 s g σ k x) : (cyPn N t) s0 s g σ k x := by
  rcases h with ⟨h0, h⟩ | ⟨h0, h⟩ | ⟨h0, h⟩ | ⟨h0, h⟩ | ⟨h0, h⟩ | ⟨h0, h⟩ | ⟨h0, h⟩ | ⟨h0, h⟩ | ⟨h0, h⟩
  all_goals first | exact h | (exfalso; omega)
theorem cyJ.at_0 {e s1 : Nat} (h : cyJ N t s σ μ K) (hi : IsWd N t s false e 0) (hk : Skp N t e s1) (f : cyK cmT μ μ1) : (∃ s' g' τ, (cyPa N t) s1 (decide (s1 = e)) σ s' g' τ ∧ s1 ≤ s' ∧ cyG N t μ1 s' g' τ K) ∨ (∃ k x, (cyPn N t) s s1 (decide (s1 = e)) σ k x ∧ k ≠ 0 ∧ cyH μ1 k x K) := by
  rcases h.at (by unfold cyW; omega) hi hk f with ⟨s', g', τ, h1, h2⟩ | ⟨k, x, h1, h2⟩
  · exact Or.inl ⟨s', g', τ, cyB_0 h1, h2⟩
  · exact Or.inr ⟨k, x, cyC_0 h1, h2⟩
theorem cyB_2 {s s' : Nat} {g g' : Bool} {τ : mM} (h : cyB 2 N t s g σ s' g' τ) : (cyNr N t) s g σ s' g' τ := by
  rcases h with ⟨h0, h⟩ | ⟨h0, h⟩ | ⟨h0, h⟩ | ⟨h0, h⟩ | ⟨h0, h⟩ | ⟨h0, h⟩ | ⟨h0, h⟩ | ⟨h0, h⟩ | ⟨h0, h⟩
  all_goals first | exact h | (exfalso; omega)
theorem cyC_2 {s0 s : Nat} {g : Bool} {k x : Int} (h : cyC 2 N t s0 s g σ k x) : (cyNn N t) s0 s g σ k x := by
  rcases h with ⟨h0, h⟩ | ⟨h0, h⟩ | ⟨h0, h⟩ | ⟨h0, h⟩ | ⟨h0, h⟩ | ⟨h0, h⟩ | ⟨h0, h⟩ | ⟨h0, h⟩ | ⟨h0, h⟩
  all_goals first | exact h | (exfalso; omega)
theorem cyJ.at_2 {e s1 : Nat} (h : cyJ N t s σ μ K) (hi : IsWd N t s false e 2) (hk : Skp N t e s1) (f : cyK cmT μ μ1) : (∃ s' g' τ, (cyNr N t) s1 (decide (s1 = e)) σ s' g' τ ∧ s1 ≤ s' ∧ cyG N t μ1 s' g' τ K) ∨ (∃ k x, (cyNn N t) s s1 (decide (s1 = e)) σ k x ∧ k ≠ 0 ∧ cyH μ1 k x K) := by
  rcases h.at (by unfold cyW; omega) hi hk f with ⟨s', g', τ, h1, h2⟩ | ⟨k, x, h1, h2⟩
  · exact Or.inl ⟨s', g', τ, cyB_2 h1, h2⟩
  · exact Or.inr ⟨k, x, cyC_2 h1, h2⟩
theorem cyB_3 {s s' : Nat} {g g' : Bool} {τ : mM} (h : cyB 3 N t s g σ s' g' τ) : (cyFl 6 N t) s g σ s' g' τ := by
  rcases h with ⟨h0, h⟩ | ⟨h0, h⟩ | ⟨h0, h⟩ | ⟨h0, h⟩ | ⟨h0, h⟩ | ⟨h0, h⟩ | ⟨h0, h⟩ | ⟨h0, h⟩ | ⟨h0, h⟩
  all_goals first | exact h | (exfalso; omega)
theorem cyC_3 {s0 s : Nat} {g : Bool} {k x : Int} (h : cyC 3 N t s0 s g σ k x) : (cyFn 6 N t) s0 s g σ k x := by
  rcases h with ⟨h0, h⟩ | ⟨h0, h⟩ | ⟨h0, h⟩ | ⟨h0, h⟩ | ⟨h0, h⟩ | ⟨h0, h⟩ | ⟨h0, h⟩ | ⟨h0, h⟩ | ⟨h0, h⟩
  all_goals first | exact h | (exfalso; omega)
theorem cyJ.at_3 {e s1 : Nat} (h : cyJ N t s σ μ K) (hi : IsWd N t s false e 3) (hk : Skp N t e s1) (f : cyK cmT μ μ1) : (∃ s' g' τ, (cyFl 6 N t) s1 (decide (s1 = e)) σ s' g' τ ∧ s1 ≤ s' ∧ cyG N t μ1 s' g' τ K) ∨ (∃ k x, (cyFn 6 N t) s s1 (decide (s1 = e)) σ k x ∧ k ≠ 0 ∧ cyH μ1 k x K) := by
  rcases h.at (by unfold cyW; omega) hi hk f with ⟨s', g', τ, h1, h2⟩ | ⟨k, x, h1, h2⟩
  · exact Or.inl ⟨s', g', τ, cyB_3 h1, h2⟩
  · exact Or.inr ⟨k, x, cyC_3 h1, h2⟩
theorem cyB_4 {s s' : Nat} {g g' : Bool} {τ : mM} (h : cyB 4 N t s g σ s' g' τ) : (cyFl 7 N t) s g σ s' g' τ := by
  rcases h with ⟨h0, h⟩ | ⟨h0, h⟩ | ⟨h0, h⟩ | ⟨h0, h⟩ | ⟨h0, h⟩ | ⟨h0, h⟩ | ⟨h0, h⟩ | ⟨h0, h⟩ | ⟨h0, h⟩
  all_goals first | exact h | (exfalso; omega)
theorem cyC_4 {s0 s : Nat} {g : Bool} {k x : Int} (h : cyC 4 N t s0 s g σ k x) : (cyFn 7 N t) s0 s g σ k x := by
  rcases h with ⟨h0, h⟩ | ⟨h0, h⟩ | ⟨h0, h⟩ | ⟨h0, h⟩ | ⟨h0, h⟩ | ⟨h0, h⟩ | ⟨h0, h⟩ | ⟨h0, h⟩ | ⟨h0, h⟩
  all_goals first | exact h | (exfalso; omega)
theorem cyJ.at_4 {e s1 : Nat} (h : cyJ N t s σ μ K) (hi : IsWd N t s false e 4) (hk : Skp N t e s1) (f : cyK cmT μ μ1) : (∃ s' g' τ, (cyFl 7 N t) s1 (decide (s1 = e)) σ s' g' τ ∧ s1 ≤ s' ∧ cyG N t μ1 s' g' τ K) ∨ (∃ k x, (cyFn 7 N t) s s1 (decide (s1 = e)) σ k x ∧ k ≠ 0 ∧ cyH μ1 k x K) := by
  rcases h.at (by unfold cyW; omega) hi hk f with ⟨s', g', τ, h1, h2⟩ | ⟨k, x, h1, h2⟩
  · exact Or.inl ⟨s', g', τ, cyB_4 h1, h2⟩
  · exact Or.inr ⟨k, x, cyC_4 h1, h2⟩
theorem cyB_5 {s s' : Nat} {g g' : Bool} {τ : mM} (h : cyB 5 N t s g σ s' g' τ) : (cyRu 0 0 N t) s g σ s' g' τ := by
  rcases h with ⟨h0, h⟩ | ⟨h0, h⟩ | ⟨h0, h⟩ | ⟨h0, h⟩ | ⟨h0, h⟩ | ⟨h0, h⟩ | ⟨h0, h⟩ | ⟨h0, h⟩ | ⟨h0, h⟩
  all_goals first | exact h | (exfalso; omega)
theorem cyC_5 {s0 s : Nat} {g : Bool} {k x : Int} (h : cyC 5 N t s0 s g σ k x) : (cyRn 0 0 N t) s0 s g σ k x := by
  rcases h with ⟨h0, h⟩ | ⟨h0, h⟩ | ⟨h0, h⟩ | ⟨h0, h⟩ | ⟨h0, h⟩ | ⟨h0, h⟩ | ⟨h0, h⟩ | ⟨h0, h⟩ | ⟨h0, h⟩
  all_goals first | exact h | (exfalso; omega)
theorem cyJ.at_5 {e s1 : Nat} (h : cyJ N t s σ μ K) (hi : IsWd N t s false e 5) (hk : Skp N t e s1) (f : cyK cmT μ μ1) : (∃ s' g' τ, (cyRu 0 0 N t) s1 (decide (s1 = e)) σ s' g' τ ∧ s1 ≤ s' ∧ cyG N t μ1 s' g' τ K) ∨ (∃ k x, (cyRn 0 0 N t) s s1 (decide (s1 = e)) σ k x ∧ k ≠ 0 ∧ cyH μ1 k x K) := by
  rcases h.at (by unfold cyW; omega) hi hk f with ⟨s', g', τ, h1, h2⟩ | ⟨k, x, h1, h2⟩
  · exact Or.inl ⟨s', g', τ, cyB_5 h1, h2⟩
  · exact Or.inr ⟨k, x, cyC_5 h1, h2⟩
theorem cyB_6 {s s' : Nat} {g g' : Bool} {τ : mM} (h : cyB 6 N t s g σ s' g' τ) : (cyRu 1 0 N t) s g σ s' g' τ := by
  rcases h with ⟨h0, h⟩ | ⟨h0, h⟩ | ⟨h0, h⟩ | ⟨h0, h⟩ | ⟨h0, h⟩ | ⟨h0, h⟩ | ⟨h0, h⟩ | ⟨h0, h⟩ | ⟨h0, h⟩
  all_goals first | exact h | (exfalso; omega)
theorem cyC_6 {s0 s : Nat} {g : Bool} {k x : Int} (h : cyC 6 N t s0 s g σ k x) : (cyRn 1 0 N t) s0 s g σ k x := by
  rcases h with ⟨h0, h⟩ | ⟨h0, h⟩ | ⟨h0, h⟩ | ⟨h0, h⟩ | ⟨h0, h⟩ | ⟨h0, h⟩ | ⟨h0, h⟩ | ⟨h0, h⟩ | ⟨h0, h⟩
  all_goals first | exact h | (exfalso; omega)
theorem cyJ.at_6 {e s1 : Nat} (h : cyJ N t s σ μ K) (hi : IsWd N t s false e 6) (hk : Skp N t e s1) (f : cyK cmT μ μ1) : (∃ s' g' τ, (cyRu 1 0 N t) s1 (decide (s1 = e)) σ s' g' τ ∧ s1 ≤ s' ∧ cyG N t μ1 s' g' τ K) ∨ (∃ k x, (cyRn 1 0 N t) s s1 (decide (s1 = e)) σ k x ∧ k ≠ 0 ∧ cyH μ1 k x K) := by
  rcases h.at (by unfold cyW; omega) hi hk f with ⟨s', g', τ, h1, h2⟩ | ⟨k, x, h1, h2⟩
  · exact Or.inl ⟨s', g', τ, cyB_6 h1, h2⟩
  · exact Or.inr ⟨k, x, cyC_6 h1, h2⟩
theorem cyB_7 {s s' : Nat} {g g' : Bool} {τ : mM} (h : cyB 7 N t s g σ s' g' τ) : (cyRu 2 1 N t) s g σ s' g' τ := by
  rcases h with ⟨h0, h⟩ | ⟨h0, h⟩ | ⟨h0, h⟩ | ⟨h0, h⟩ | ⟨h0, h⟩ | ⟨h0, h⟩ | ⟨h0, h⟩ | ⟨h0, h⟩ | ⟨h0, h⟩
  all_goals first | exact h | (exfalso; omega)
theorem cyC_7 {s0 s : Nat} {g : Bool} {k x : Int} (h : cyC 7 N t s0 s g σ k x) : (cyRn 2 1 N t) s0 s g σ k x := by
  rcases h with ⟨h0, h⟩ | ⟨h0, h⟩ | ⟨h0, h⟩ | ⟨h0, h⟩ | ⟨h0, h⟩ | ⟨h0, h⟩ | ⟨h0, h⟩ | ⟨h0, h⟩ | ⟨h0, h⟩
  all_goals first | exact h | (exfalso; omega)
theorem cyJ.at_7 {e s1 : Nat} (h : cyJ N t s σ μ K) (hi : IsWd N t s false e 7) (hk : Skp N t e s1) (f : cyK cmT μ μ1) : (∃ s' g' τ, (cyRu 2 1 N t) s1 (decide (s1 = e)) σ s' g' τ ∧ s1 ≤ s' ∧ cyG N t μ1 s' g' τ K) ∨ (∃ k x, (cyRn 2 1 N t) s s1 (decide (s1 = e)) σ k x ∧ k ≠ 0 ∧ cyH μ1 k x K) := by
  rcases h.at (by unfold cyW; omega) hi hk f with ⟨s', g', τ, h1, h2⟩ | ⟨k, x, h1, h2⟩
  · exact Or.inl ⟨s', g', τ, cyB_7 h1, h2⟩
  · exact Or.inr ⟨k, x, cyC_7 h1, h2⟩
theorem cyB_8 {s s' : Nat} {g g' : Bool} {τ : mM} (h : cyB 8 N t s g σ s' g' τ) : (cySe 8 1 20 N t) s g σ s' g' τ := by
  rcases h with ⟨h0, h⟩ | ⟨h0, h⟩ | ⟨h0, h⟩ | ⟨h0, h⟩ | ⟨h0, h⟩ | ⟨h0, h⟩ | ⟨h0, h⟩ | ⟨h0, h⟩ | ⟨h0, h⟩
  all_goals first | exact h | (exfalso; omega)
theorem cyC_8 {s0 s : Nat} {g : Bool} {k x : Int} (h : cyC 8 N t s0 s g σ k x) : (cySn 1 20 N t) s0 s g σ k x := by
  rcases h with ⟨h0, h⟩ | ⟨h0, h⟩ | ⟨h0, h⟩ | ⟨h0, h⟩ | ⟨h0, h⟩ | ⟨h0, h⟩ | ⟨h0, h⟩ | ⟨h0, h⟩ | ⟨h0, h⟩
  all_goals first | exact h | (exfalso; omega)
theorem cyJ.at_8 {e s1 : Nat} (h : cyJ N t s σ μ K) (hi : IsWd N t s false e 8) (hk : Skp N t e s1) (f : cyK cmT μ μ1) : (∃ s' g' τ, (cySe 8 1 20 N t) s1 (decide (s1 = e)) σ s' g' τ ∧ s1 ≤ s' ∧ cyG N t μ1 s' g' τ K) ∨ (∃ k x, (cySn 1 20 N t) s s1 (decide (s1 = e)) σ k x ∧ k ≠ 0 ∧ cyH μ1 k x K) := by
  rcases h.at (by unfold cyW; omega) hi hk f with ⟨s', g', τ, h1, h2⟩ | ⟨k, x, h1, h2⟩
  · exact Or.inl ⟨s', g', τ, cyB_8 h1, h2⟩
  · exact Or.inr ⟨k, x, cyC_8 h1, h2⟩
theorem cyB_9 {s s' : Nat} {g g' : Bool} {τ : mM} (h : cyB 9 N t s g σ s' g' τ) : (cySe 9 0 100 N t) s g σ s' g' τ := by
  rcases h with ⟨h0, h⟩ | ⟨h0, h⟩ | ⟨h0, h⟩ | ⟨h0, h⟩ | ⟨h0, h⟩ | ⟨h0, h⟩ | ⟨h0, h⟩ | ⟨h0, h⟩ | ⟨h0, h⟩
  all_goals first | exact h | (exfalso; omega)
theorem cyC_9 {s0 s : Nat} {g : Bool} {k x : Int} (h : cyC 9 N t s0 s g σ k x) : (cySn 0 100 N t) s0 s g σ k x := by
  rcases h with ⟨h0, h⟩ | ⟨h0, h⟩ | ⟨h0, h⟩ | ⟨h0, h⟩ | ⟨h0, h⟩ | ⟨h0, h⟩ | ⟨h0, h⟩ | ⟨h0, h⟩ | ⟨h0, h⟩
  all_goals first | exact h | (exfalso; omega)
theorem cyJ.at_9 {e s1 : Nat} (h : cyJ N t s σ μ K) (hi : IsWd N t s false e 9) (hk : Skp N t e s1) (f : cyK cmT μ μ1) : (∃ s' g' τ, (cySe 9 0 100 N t) s1 (decide (s1 = e)) σ s' g' τ ∧ s1 ≤ s' ∧ cyG N t μ1 s' g' τ K) ∨ (∃ k x, (cySn 0 100 N t) s s1 (decide (s1 = e)) σ k x ∧ k ≠ 0 ∧ cyH μ1 k x K) := by
  rcases h.at (by unfold cyW; omega) hi hk f with ⟨s', g', τ, h1, h2⟩ | ⟨k, x, h1, h2⟩
  · exact Or.inl ⟨s', g', τ, cyB_9 h1, h2⟩
  · exact Or.inr ⟨k, x, cyC_9 h1, h2⟩
/-- a setting of the model -/
theorem m_gale {s0 : Nat} {g : Bool} (hF : Fix μ) (hT : TxM μ N t) (hb : μ 146 5 = 0) (h6 : μ 146 6 = -1) (hP : PosM μ N t s g) (hR : cyR σ μ s0) (hs : s0 ≤ s)
    (H : (∃ s' g' τ, cySe 8 1 20 N t s g σ s' g' τ ∧ s ≤ s' ∧ cyG N t μ s' g' τ K) ∨ (∃ k x, cySn 1 20 N t s0 s g σ k x ∧ k ≠ 0 ∧ cyH μ k x K)) : Mt (d + 2) 164 [.inr (.inr 146), .inl 1, .inl 20] μ (fun r μ' => ∃ v, r = some (.inl v) ∧ Fix μ' ∧ K none (mj_set μ' 178 0 v)) := by
  refine m_number hF hT hb hP (fun μ1 e s' f1 hm h4 hv k1 p1 => ?_) (fun μ1 k x v f1 hf c5 c6 _ => ?_)
  · rcases H with ⟨s2, g', τ, ⟨e2, a1, a2, a3, a4, a5, a6⟩, hss, hG⟩ | ⟨k, x, hh, hk, hH⟩
    · obtain rfl : e2 = e := a1.2.2.2.uniq hm.2.2.2
      obtain rfl := k1.uniq a4
      have R1 : cyR σ μ1 s' := hR.cg cyE.refl (f1.mono rfl) (by omega)
      obtain ⟨n2, m2, c2, r01, r02, r03, r1, r2, r3, r4, r5, r6, r7, r8, r9, r10⟩ := R1
      refine ⟨_, rfl, hF.fr f1 rfl, hG _ ((tm_cm f1).set (Or.inr (Or.inr (Or.inr (Or.inl ⟨rfl, by decide⟩))))) (by rw [a5]; exact p1.cg rfl rfl) ((f1 146 5 rfl).trans hb) ((f1 146 6 rfl).trans h6) ?_⟩
      have R2 : cyR (mj_set σ 11 8 (numV t s (e2 - s))) (mj_set μ1 178 0 (numV t s (e2 - s))) s' := by
        first
          | exact ⟨n2, m2, c2, r01, r02, r03, r1, r2, r3, r4, r5, ⟨rfl, a3⟩, r7, r8, r9, fun r hr => (r10 r hr).cg rfl rfl rfl rfl rfl rfl⟩
          | exact ⟨n2, m2, c2, r01, r02, r03, r1, r2, r3, r4, r5, r6, ⟨rfl, a3⟩, r8, r9, fun r hr => (r10 r hr).cg rfl rfl rfl rfl rfl rfl⟩
      exact R2.cg a6 Fr.same (Nat.le_refl _)
    · exfalso
      rcases hh with ⟨-, -, h⟩ | ⟨e4, h, ⟨h1, -⟩ | ⟨-, h1, -⟩⟩
      · exact h e hm
      · obtain rfl : e4 = e := h.2.2.2.uniq hm.2.2.2
        omega
      · obtain rfl : e4 = e := h.2.2.2.uniq hm.2.2.2
        exact h1 hv
  · rcases H with ⟨s2, g', τ, ⟨e2, a1, a2, a3, a4, a5, a6⟩, hss, hG⟩ | ⟨k', x', hh, hk, hH⟩
    · exfalso
      rcases hf with ⟨-, -, h⟩ | ⟨e4, h, ⟨h1, -⟩ | ⟨-, h1, -⟩⟩
      · exact h e2 a1
      · obtain rfl : e4 = e2 := h.2.2.2.uniq a1.2.2.2
        omega
      · obtain rfl : e4 = e2 := h.2.2.2.uniq a1.2.2.2
        exact h1 a3
    · obtain ⟨rfl, rfl⟩ := hf.uniq hh
      exact ⟨_, rfl, hF.fr f1 rfl, hH _ ((ms_cm f1).set (Or.inr (Or.inr (Or.inr (Or.inl ⟨rfl, by decide⟩))))) c5 c6⟩
theorem m_slip {s0 : Nat} {g : Bool} (hF : Fix μ) (hT : TxM μ N t) (hb : μ 146 5 = 0) (h6 : μ 146 6 = -1) (hP : PosM μ N t s g) (hR : cyR σ μ s0) (hs : s0 ≤ s)
    (H : (∃ s' g' τ, cySe 9 0 100 N t s g σ s' g' τ ∧ s ≤ s' ∧ cyG N t μ s' g' τ K) ∨ (∃ k x, cySn 0 100 N t s0 s g σ k x ∧ k ≠ 0 ∧ cyH μ k x K)) : Mt (d + 2) 164 [.inr (.inr 146), .inl 0, .inl 100] μ (fun r μ' => ∃ v, r = some (.inl v) ∧ Fix μ' ∧ K none (mj_set μ' 178 1 v)) := by
  refine m_number hF hT hb hP (fun μ1 e s' f1 hm h4 hv k1 p1 => ?_) (fun μ1 k x v f1 hf c5 c6 _ => ?_)
  · rcases H with ⟨s2, g', τ, ⟨e2, a1, a2, a3, a4, a5, a6⟩, hss, hG⟩ | ⟨k, x, hh, hk, hH⟩
    · obtain rfl : e2 = e := a1.2.2.2.uniq hm.2.2.2
      obtain rfl := k1.uniq a4
      have R1 : cyR σ μ1 s' := hR.cg cyE.refl (f1.mono rfl) (by omega)
      obtain ⟨n2, m2, c2, r01, r02, r03, r1, r2, r3, r4, r5, r6, r7, r8, r9, r10⟩ := R1
      refine ⟨_, rfl, hF.fr f1 rfl, hG _ ((tm_cm f1).set (Or.inr (Or.inr (Or.inr (Or.inl ⟨rfl, by decide⟩))))) (by rw [a5]; exact p1.cg rfl rfl) ((f1 146 5 rfl).trans hb) ((f1 146 6 rfl).trans h6) ?_⟩
      have R2 : cyR (mj_set σ 11 9 (numV t s (e2 - s))) (mj_set μ1 178 1 (numV t s (e2 - s))) s' := by
        first
          | exact ⟨n2, m2, c2, r01, r02, r03, r1, r2, r3, r4, r5, ⟨rfl, a3⟩, r7, r8, r9, fun r hr => (r10 r hr).cg rfl rfl rfl rfl rfl rfl⟩
          | exact ⟨n2, m2, c2, r01, r02, r03, r1, r2, r3, r4, r5, r6, ⟨rfl, a3⟩, r8, r9, fun r hr => (r10 r hr).cg rfl rfl rfl rfl rfl rfl⟩
      exact R2.cg a6 Fr.same (Nat.le_refl _)
    · exfalso
      rcases hh with ⟨-, -, h⟩ | ⟨e4, h, ⟨h1, -⟩ | ⟨-, h1, -⟩⟩
      · exact h e hm
      · obtain rfl : e4 = e := h.2.2.2.uniq hm.2.2.2
        omega
      · obtain rfl : e4 = e := h.2.2.2.uniq hm.2.2.2
        exact h1 hv
  · rcases H with ⟨s2, g', τ, ⟨e2, a1, a2, a3, a4, a5, a6⟩, hss, hG⟩ | ⟨k', x', hh, hk, hH⟩
    · exfalso
      rcases hf with ⟨-, -, h⟩ | ⟨e4, h, ⟨h1, -⟩ | ⟨-, h1, -⟩⟩
      · exact h e2 a1
      · obtain rfl : e4 = e2 := h.2.2.2.uniq a1.2.2.2
        omega
      · obtain rfl : e4 = e2 := h.2.2.2.uniq a1.2.2.2
        exact h1 a3
    · obtain ⟨rfl, rfl⟩ := hf.uniq hh
      exact ⟨_, rfl, hF.fr f1 rfl, hH _ ((ms_cm f1).set (Or.inr (Or.inr (Or.inr (Or.inl ⟨rfl, by decide⟩))))) c5 c6⟩
theorem m_stmt {m : Nat} (hF : Fix μ) (hT : TxM μ N t) (hb : μ 146 5 = 0) (h6 : μ 146 6 = -1) (hP : PosA μ N t s false) (hR : cyR σ μ s) (h45 : μ 146 45 = (m : Int)) (hm : m < 80)
    (H : (∃ s' τ, cyO N t s σ s' τ ∧ ∀ μ', cyK cmU μ μ' → PosM μ' N t s' false → μ' 146 5 = 0 → μ' 146 6 = -1 → μ' 146 45 = ((m + 1 : Nat) : Int) → cyR τ μ' s' → K none μ') ∨ (∃ k x, cyOx N t s σ k x ∧ ∀ μ', cyK cmU μ μ' → μ' 146 5 = k → μ' 146 6 = x → K none μ')) : Mt (d + 13) 174 [.inr (.inr 146)] μ K := by
  refine Mt.go (lv := [some (.inr (.inr 146)), none]) rfl rfl rfl ?_
  have w1 : Unit → w32 ((m : Int) + 1) = ((m + 1 : Nat) : Int) := fun _ => by rw [w32_small (by omega) (by omega)]; omega
  have s59 : sgn 59 := by unfold sgn; decide
  -- the end sign
  have hJ : cyJ N t s σ μ (fun r' μ1 => r' = none ∧ At (d + 12) 174 10 [some (.inr (.inr 146)), some (.inl (s : Int))] [] μ1 K) := by
    rcases H with ⟨s', τ, ⟨s2, g2, hS, hi, hk⟩, hK⟩ | ⟨k, x, hS | ⟨s2, g2, τ, hS, hi, rfl, rfl⟩, hK⟩
    · refine Or.inl ⟨s2, g2, τ, hS, fun μ1 k1 p1 c5 c6 r1 => ⟨rfl, ?_⟩⟩
      have hF1 := hF.fr k1.fr rfl
      have hT1 : TxM μ1 N t := hT.cg (k1.fr 146 3 rfl) (k1.fr.row 147 rfl)
      refine At.blk rfl rfl rfl fun sx => ?_
      simp (decide := true) only [RR, ms_app, toList_some, toList_none, if_true, if_false, true_and, and_true, cond_true, sm0, sm1, sm1l, sm2, lc_lt, lc_gt, lc_eq, Int.toNat_natCast, Int.reduceToNat, Nat.reduceAdd, Nat.reduceEqDiff, Int.reduceLT, Int.reduceEq, Int.reduceNeg, Int.reduceAdd, Int.reduceMul, Nat.reduceMul, ms_n, ms_i, ms_l, ms_p, PM]
      refine cal_of rfl (m_asksSign s59 hF1 hT1 c5 p1 (fun μ2 s3 f2 hi2 k2 p2 => ?_) (fun μ2 f2 hn _ _ => absurd hi hn))
      obtain rfl := k2.uniq hk
      have e45 : μ2 146 45 = (m : Int) := by rw [f2 146 45 rfl, k1.fr 146 45 rfl]; exact h45
      have z2 := hk.1
      simp (decide := true) only [RR, ms_app, toList_some, toList_none, if_true, if_false, true_and, and_true, cond_true, sm0, sm1, sm1l, sm2, lc_lt, lc_gt, lc_eq, Int.toNat_natCast, Int.reduceToNat, Nat.reduceAdd, Nat.reduceEqDiff, Int.reduceLT, Int.reduceEq, Int.reduceNeg, Int.reduceAdd, Int.reduceMul, Nat.reduceMul, ms_n, ms_i, ms_l, ms_p, PM, e45, w1 ()]
      exact hK _ ((k1.mono rfl).trans ((cyK.of (f2.mono rfl)).trans (cyK.of (Fr.same.set rfl)))) (p2.cg rfl rfl) ((f2 146 5 rfl).trans c5) ((f2 146 6 rfl).trans c6) rfl (r1.cg cyE.refl ((Fr.same.trans (f2.mono rfl)).set rfl) (by omega))
    · refine Or.inr ⟨k, x, hS, fun μ1 k1 c5 c6 => ⟨rfl, ?_⟩⟩
      have hF1 := hF.fr k1.fr rfl
      have e45 : μ1 146 45 = (m : Int) := (k1.fr 146 45 rfl).trans h45
      refine At.blk rfl rfl rfl fun sx => ?_
      simp (decide := true) only [RR, ms_app, toList_some, toList_none, if_true, if_false, true_and, and_true, cond_true, sm0, sm1, sm1l, sm2, lc_lt, lc_gt, lc_eq, Int.toNat_natCast, Int.reduceToNat, Nat.reduceAdd, Nat.reduceEqDiff, Int.reduceLT, Int.reduceEq, Int.reduceNeg, Int.reduceAdd, Int.reduceMul, Nat.reduceMul, ms_n, ms_i, ms_l, ms_p, PM]
      refine cal_of rfl (m_asksSign_bad (by rw [c5]; exact hS.ne) ?_)
      simp (decide := true) only [RR, ms_app, toList_some, toList_none, if_true, if_false, true_and, and_true, cond_true, sm0, sm1, sm1l, sm2, lc_lt, lc_gt, lc_eq, Int.toNat_natCast, Int.reduceToNat, Nat.reduceAdd, Nat.reduceEqDiff, Int.reduceLT, Int.reduceEq, Int.reduceNeg, Int.reduceAdd, Int.reduceMul, Nat.reduceMul, ms_n, ms_i, ms_l, ms_p, PM, e45, w1 ()]
      exact hK _ ((k1.mono rfl).trans (cyK.of (Fr.same.set rfl))) c5 c6
    · refine Or.inl ⟨s2, g2, τ, hS, fun μ1 k1 p1 c5 c6 r1 => ⟨rfl, ?_⟩⟩
      have hF1 := hF.fr k1.fr rfl
      have hT1 : TxM μ1 N t := hT.cg (k1.fr 146 3 rfl) (k1.fr.row 147 rfl)
      refine At.blk rfl rfl rfl fun sx => ?_
      simp (decide := true) only [RR, ms_app, toList_some, toList_none, if_true, if_false, true_and, and_true, cond_true, sm0, sm1, sm1l, sm2, lc_lt, lc_gt, lc_eq, Int.toNat_natCast, Int.reduceToNat, Nat.reduceAdd, Nat.reduceEqDiff, Int.reduceLT, Int.reduceEq, Int.reduceNeg, Int.reduceAdd, Int.reduceMul, Nat.reduceMul, ms_n, ms_i, ms_l, ms_p, PM]
      refine cal_of rfl (m_asksSign s59 hF1 hT1 c5 p1 (fun μ2 s3 f2 hi2 k2 p2 => absurd hi2 hi) (fun μ2 f2 hn d5 d6 => ?_))
      have e45 : μ2 146 45 = (m : Int) := by rw [f2 146 45 rfl, k1.fr 146 45 rfl]; exact h45
      simp (decide := true) only [RR, ms_app, toList_some, toList_none, if_true, if_false, true_and, and_true, cond_true, sm0, sm1, sm1l, sm2, lc_lt, lc_gt, lc_eq, Int.toNat_natCast, Int.reduceToNat, Nat.reduceAdd, Nat.reduceEqDiff, Int.reduceLT, Int.reduceEq, Int.reduceNeg, Int.reduceAdd, Int.reduceMul, Nat.reduceMul, ms_n, ms_i, ms_l, ms_p, PM, e45, w1 ()]
      exact hK _ ((k1.mono rfl).trans ((cyK.of (f2.mono rfl)).trans (cyK.of (Fr.same.set rfl)))) d5 d6
  refine At.blk rfl rfl rfl fun sx => ?_
  simp (decide := true) only [RR, ms_app, toList_some, toList_none, if_true, if_false, true_and, and_true, cond_true, sm0, sm1, sm1l, sm2, lc_lt, lc_gt, lc_eq, Int.toNat_natCast, Int.reduceToNat, Nat.reduceAdd, Nat.reduceEqDiff, Int.reduceLT, Int.reduceEq, Int.reduceNeg, Int.reduceAdd, Int.reduceMul, Nat.reduceMul, ms_n, ms_i, ms_l, ms_p, PM, hP.1, h45]
  rw [if_neg (by omega)]
  have go : ∀ (y : Nat) (as : List mV) (μ1 : mM) (K2 : mK), Mt (d + 12) y as μ1 (fun r' μ1 => r' = none ∧ At (d + 12) 174 10 [some (.inr (.inr 146)), some (.inl (s : Int))] [] μ1 K) → (∀ μ2, At (d + 12) 174 10 [some (.inr (.inr 146)), some (.inl (s : Int))] [] μ2 K → K2 none 218 μ2) → Mt (d + 12) y as μ1 (fun r' μ2 => K2 r' 218 μ2) := by
    intro y as μ1 K2 h hK
    exact h.mono (fun r' μ2 hq => by obtain ⟨rfl, hq⟩ := hq; exact hK μ2 hq)
  have step : ∀ μ0 : mM, Fr [] lkT μ μ0 → Fix μ0 ∧ TxM μ0 N t ∧ μ0 146 5 = 0 := fun μ0 f => ⟨hF.fr f rfl, hT.cg (f 146 3 rfl) (f.row 147 rfl), (f 146 5 rfl).trans hb⟩
  have word : ∀ (μ0 μ1 : mM) (e s1 w : Nat), Fr [] lkT μ μ0 → Fr [] tmT μ0 μ1 → IsWd N t s false e w → w < 27 → Skp N t e s1 → Fix μ1 ∧ TxM μ1 N t ∧ μ1 146 5 = 0 ∧ μ1 146 6 = -1 ∧ cyR σ μ1 s ∧ s < s1 ∧ cyK cmT μ μ1 := by
    intro μ0 μ1 e s1 w f0 f1 hi hw hk
    have f : Fr [] tmT μ μ1 := (f0.mono rfl).trans f1
    have z1 := hk.1
    have z2 := hi.lt hw
    exact ⟨hF.fr f rfl, hT.cg (f 146 3 rfl) (f.row 147 rfl), (f 146 5 rfl).trans hb, (f 146 6 rfl).trans h6, hR.cg cyE.refl (f.mono rfl) (Nat.le_refl _), by omega, tm_cm f⟩
  have p0 : PosA μ N t s false := hP
  have f0 : Fr [] lkT μ μ := Fr.same
  have q0 := step μ f0
  refine At.blk rfl rfl rfl fun sx => ?_
  simp (decide := true) only [RR, ms_app, toList_some, toList_none, if_true, if_false, true_and, and_true, cond_true, sm0, sm1, sm1l, sm2, lc_lt, lc_gt, lc_eq, Int.toNat_natCast, Int.reduceToNat, Nat.reduceAdd, Nat.reduceEqDiff, Int.reduceLT, Int.reduceEq, Int.reduceNeg, Int.reduceAdd, Int.reduceMul, Nat.reduceMul, ms_n, ms_i, ms_l, ms_p, PM, fxM q0.1]
  refine cal_of rfl (m_takes (w := 0) (by decide) (wr_own 0 (by decide)) q0.1 q0.2.1 q0.2.2 p0.pos (fun μ1 e s1 g1 hi k1 p1 => ?_) (fun ν1 g1 p1 n0 => ?_))
  · obtain ⟨a1, a2, a3, a4, a5, a6, a7⟩ := word _ μ1 e s1 0 f0 g1 hi (by decide) k1
    simp (decide := true) only [RR, ms_app, toList_some, toList_none, if_true, if_false, true_and, and_true, cond_true, sm0, sm1, sm1l, sm2, lc_lt, lc_gt, lc_eq, Int.toNat_natCast, Int.reduceToNat, Nat.reduceAdd, Nat.reduceEqDiff, Int.reduceLT, Int.reduceEq, Int.reduceNeg, Int.reduceAdd, Int.reduceMul, Nat.reduceMul, ms_n, ms_i, ms_l, ms_p, PM]
    refine cal_of rfl (go _ _ μ1 _ (m_partT a1 a2 a3 a4 p1 a5 (by omega) (hJ.at_0 hi k1 a7)) (fun μ2 hq => ?_))
    simp (decide := true) only [RR, ms_app, toList_some, toList_none, if_true, if_false, true_and, and_true, cond_true, sm0, sm1, sm1l, sm2, lc_lt, lc_gt, lc_eq, Int.toNat_natCast, Int.reduceToNat, Nat.reduceAdd, Nat.reduceEqDiff, Int.reduceLT, Int.reduceEq, Int.reduceNeg, Int.reduceAdd, Int.reduceMul, Nat.reduceMul, ms_n, ms_i, ms_l, ms_p, PM]
    exact hq
  have f1 := f0.trans g1
  have q1 := step ν1 f1
  simp (decide := true) only [RR, ms_app, toList_some, toList_none, if_true, if_false, true_and, and_true, cond_true, sm0, sm1, sm1l, sm2, lc_lt, lc_gt, lc_eq, Int.toNat_natCast, Int.reduceToNat, Nat.reduceAdd, Nat.reduceEqDiff, Int.reduceLT, Int.reduceEq, Int.reduceNeg, Int.reduceAdd, Int.reduceMul, Nat.reduceMul, ms_n, ms_i, ms_l, ms_p, PM]
  refine At.blk rfl rfl rfl fun sx => ?_
  simp (decide := true) only [RR, ms_app, toList_some, toList_none, if_true, if_false, true_and, and_true, cond_true, sm0, sm1, sm1l, sm2, lc_lt, lc_gt, lc_eq, Int.toNat_natCast, Int.reduceToNat, Nat.reduceAdd, Nat.reduceEqDiff, Int.reduceLT, Int.reduceEq, Int.reduceNeg, Int.reduceAdd, Int.reduceMul, Nat.reduceMul, ms_n, ms_i, ms_l, ms_p, PM, fxM q1.1]
  refine cal_of rfl (m_takes (w := 2) (by decide) (wr_own 2 (by decide)) q1.1 q1.2.1 q1.2.2 p1.pos (fun μ1 e s1 g1 hi k1 p1 => ?_) (fun ν2 g2 p2 n1 => ?_))
  · obtain ⟨a1, a2, a3, a4, a5, a6, a7⟩ := word _ μ1 e s1 2 f1 g1 hi (by decide) k1
    simp (decide := true) only [RR, ms_app, toList_some, toList_none, if_true, if_false, true_and, and_true, cond_true, sm0, sm1, sm1l, sm2, lc_lt, lc_gt, lc_eq, Int.toNat_natCast, Int.reduceToNat, Nat.reduceAdd, Nat.reduceEqDiff, Int.reduceLT, Int.reduceEq, Int.reduceNeg, Int.reduceAdd, Int.reduceMul, Nat.reduceMul, ms_n, ms_i, ms_l, ms_p, PM]
    refine cal_of rfl (go _ _ μ1 _ (m_nearT a1 a2 a3 a4 p1 a5 (by omega) (hJ.at_2 hi k1 a7)) (fun μ2 hq => ?_))
    simp (decide := true) only [RR, ms_app, toList_some, toList_none, if_true, if_false, true_and, and_true, cond_true, sm0, sm1, sm1l, sm2, lc_lt, lc_gt, lc_eq, Int.toNat_natCast, Int.reduceToNat, Nat.reduceAdd, Nat.reduceEqDiff, Int.reduceLT, Int.reduceEq, Int.reduceNeg, Int.reduceAdd, Int.reduceMul, Nat.reduceMul, ms_n, ms_i, ms_l, ms_p, PM]
    exact hq
  have f2 := f1.trans g2
  have q2 := step ν2 f2
  simp (decide := true) only [RR, ms_app, toList_some, toList_none, if_true, if_false, true_and, and_true, cond_true, sm0, sm1, sm1l, sm2, lc_lt, lc_gt, lc_eq, Int.toNat_natCast, Int.reduceToNat, Nat.reduceAdd, Nat.reduceEqDiff, Int.reduceLT, Int.reduceEq, Int.reduceNeg, Int.reduceAdd, Int.reduceMul, Nat.reduceMul, ms_n, ms_i, ms_l, ms_p, PM]
  refine At.blk rfl rfl rfl fun sx => ?_
  simp (decide := true) only [RR, ms_app, toList_some, toList_none, if_true, if_false, true_and, and_true, cond_true, sm0, sm1, sm1l, sm2, lc_lt, lc_gt, lc_eq, Int.toNat_natCast, Int.reduceToNat, Nat.reduceAdd, Nat.reduceEqDiff, Int.reduceLT, Int.reduceEq, Int.reduceNeg, Int.reduceAdd, Int.reduceMul, Nat.reduceMul, ms_n, ms_i, ms_l, ms_p, PM, fxM q2.1]
  refine cal_of rfl (m_takes (w := 3) (by decide) (wr_own 3 (by decide)) q2.1 q2.2.1 q2.2.2 p2.pos (fun μ1 e s1 g1 hi k1 p1 => ?_) (fun ν3 g3 p3 n2 => ?_))
  · obtain ⟨a1, a2, a3, a4, a5, a6, a7⟩ := word _ μ1 e s1 3 f2 g1 hi (by decide) k1
    simp (decide := true) only [RR, ms_app, toList_some, toList_none, if_true, if_false, true_and, and_true, cond_true, sm0, sm1, sm1l, sm2, lc_lt, lc_gt, lc_eq, Int.toNat_natCast, Int.reduceToNat, Nat.reduceAdd, Nat.reduceEqDiff, Int.reduceLT, Int.reduceEq, Int.reduceNeg, Int.reduceAdd, Int.reduceMul, Nat.reduceMul, ms_n, ms_i, ms_l, ms_p, PM]
    refine cal_of rfl (go _ _ μ1 _ (m_aunt a1 a2 a3 a4 p1 a5 (by omega) (hJ.at_3 hi k1 a7)) (fun μ2 hq => ?_))
    simp (decide := true) only [RR, ms_app, toList_some, toList_none, if_true, if_false, true_and, and_true, cond_true, sm0, sm1, sm1l, sm2, lc_lt, lc_gt, lc_eq, Int.toNat_natCast, Int.reduceToNat, Nat.reduceAdd, Nat.reduceEqDiff, Int.reduceLT, Int.reduceEq, Int.reduceNeg, Int.reduceAdd, Int.reduceMul, Nat.reduceMul, ms_n, ms_i, ms_l, ms_p, PM]
    exact hq
  have f3 := f2.trans g3
  have q3 := step ν3 f3
  simp (decide := true) only [RR, ms_app, toList_some, toList_none, if_true, if_false, true_and, and_true, cond_true, sm0, sm1, sm1l, sm2, lc_lt, lc_gt, lc_eq, Int.toNat_natCast, Int.reduceToNat, Nat.reduceAdd, Nat.reduceEqDiff, Int.reduceLT, Int.reduceEq, Int.reduceNeg, Int.reduceAdd, Int.reduceMul, Nat.reduceMul, ms_n, ms_i, ms_l, ms_p, PM]
  refine At.blk rfl rfl rfl fun sx => ?_
  simp (decide := true) only [RR, ms_app, toList_some, toList_none, if_true, if_false, true_and, and_true, cond_true, sm0, sm1, sm1l, sm2, lc_lt, lc_gt, lc_eq, Int.toNat_natCast, Int.reduceToNat, Nat.reduceAdd, Nat.reduceEqDiff, Int.reduceLT, Int.reduceEq, Int.reduceNeg, Int.reduceAdd, Int.reduceMul, Nat.reduceMul, ms_n, ms_i, ms_l, ms_p, PM, fxM q3.1]
  refine cal_of rfl (m_takes (w := 4) (by decide) (wr_own 4 (by decide)) q3.1 q3.2.1 q3.2.2 p3.pos (fun μ1 e s1 g1 hi k1 p1 => ?_) (fun ν4 g4 p4 n3 => ?_))
  · obtain ⟨a1, a2, a3, a4, a5, a6, a7⟩ := word _ μ1 e s1 4 f3 g1 hi (by decide) k1
    simp (decide := true) only [RR, ms_app, toList_some, toList_none, if_true, if_false, true_and, and_true, cond_true, sm0, sm1, sm1l, sm2, lc_lt, lc_gt, lc_eq, Int.toNat_natCast, Int.reduceToNat, Nat.reduceAdd, Nat.reduceEqDiff, Int.reduceLT, Int.reduceEq, Int.reduceNeg, Int.reduceAdd, Int.reduceMul, Nat.reduceMul, ms_n, ms_i, ms_l, ms_p, PM]
    refine cal_of rfl (go _ _ μ1 _ (m_deaf a1 a2 a3 a4 p1 a5 (by omega) (hJ.at_4 hi k1 a7)) (fun μ2 hq => ?_))
    simp (decide := true) only [RR, ms_app, toList_some, toList_none, if_true, if_false, true_and, and_true, cond_true, sm0, sm1, sm1l, sm2, lc_lt, lc_gt, lc_eq, Int.toNat_natCast, Int.reduceToNat, Nat.reduceAdd, Nat.reduceEqDiff, Int.reduceLT, Int.reduceEq, Int.reduceNeg, Int.reduceAdd, Int.reduceMul, Nat.reduceMul, ms_n, ms_i, ms_l, ms_p, PM]
    exact hq
  have f4 := f3.trans g4
  have q4 := step ν4 f4
  simp (decide := true) only [RR, ms_app, toList_some, toList_none, if_true, if_false, true_and, and_true, cond_true, sm0, sm1, sm1l, sm2, lc_lt, lc_gt, lc_eq, Int.toNat_natCast, Int.reduceToNat, Nat.reduceAdd, Nat.reduceEqDiff, Int.reduceLT, Int.reduceEq, Int.reduceNeg, Int.reduceAdd, Int.reduceMul, Nat.reduceMul, ms_n, ms_i, ms_l, ms_p, PM]
  refine At.blk rfl rfl rfl fun sx => ?_
  simp (decide := true) only [RR, ms_app, toList_some, toList_none, if_true, if_false, true_and, and_true, cond_true, sm0, sm1, sm1l, sm2, lc_lt, lc_gt, lc_eq, Int.toNat_natCast, Int.reduceToNat, Nat.reduceAdd, Nat.reduceEqDiff, Int.reduceLT, Int.reduceEq, Int.reduceNeg, Int.reduceAdd, Int.reduceMul, Nat.reduceMul, ms_n, ms_i, ms_l, ms_p, PM, fxM q4.1]
  refine cal_of rfl (m_takes (w := 5) (by decide) (wr_own 5 (by decide)) q4.1 q4.2.1 q4.2.2 p4.pos (fun μ1 e s1 g1 hi k1 p1 => ?_) (fun ν5 g5 p5 n4 => ?_))
  · obtain ⟨a1, a2, a3, a4, a5, a6, a7⟩ := word _ μ1 e s1 5 f4 g1 hi (by decide) k1
    simp (decide := true) only [RR, ms_app, toList_some, toList_none, if_true, if_false, true_and, and_true, cond_true, sm0, sm1, sm1l, sm2, lc_lt, lc_gt, lc_eq, Int.toNat_natCast, Int.reduceToNat, Nat.reduceAdd, Nat.reduceEqDiff, Int.reduceLT, Int.reduceEq, Int.reduceNeg, Int.reduceAdd, Int.reduceMul, Nat.reduceMul, ms_n, ms_i, ms_l, ms_p, PM]
    refine cal_of rfl (go _ _ μ1 _ ((m_ruleT (r := 0) (tk := 0) (by decide) (by decide)) a1 a2 a3 a4 p1 a5 (by omega) (hJ.at_5 hi k1 a7)) (fun μ2 hq => ?_))
    simp (decide := true) only [RR, ms_app, toList_some, toList_none, if_true, if_false, true_and, and_true, cond_true, sm0, sm1, sm1l, sm2, lc_lt, lc_gt, lc_eq, Int.toNat_natCast, Int.reduceToNat, Nat.reduceAdd, Nat.reduceEqDiff, Int.reduceLT, Int.reduceEq, Int.reduceNeg, Int.reduceAdd, Int.reduceMul, Nat.reduceMul, ms_n, ms_i, ms_l, ms_p, PM]
    exact hq
  have f5 := f4.trans g5
  have q5 := step ν5 f5
  simp (decide := true) only [RR, ms_app, toList_some, toList_none, if_true, if_false, true_and, and_true, cond_true, sm0, sm1, sm1l, sm2, lc_lt, lc_gt, lc_eq, Int.toNat_natCast, Int.reduceToNat, Nat.reduceAdd, Nat.reduceEqDiff, Int.reduceLT, Int.reduceEq, Int.reduceNeg, Int.reduceAdd, Int.reduceMul, Nat.reduceMul, ms_n, ms_i, ms_l, ms_p, PM]
  refine At.blk rfl rfl rfl fun sx => ?_
  simp (decide := true) only [RR, ms_app, toList_some, toList_none, if_true, if_false, true_and, and_true, cond_true, sm0, sm1, sm1l, sm2, lc_lt, lc_gt, lc_eq, Int.toNat_natCast, Int.reduceToNat, Nat.reduceAdd, Nat.reduceEqDiff, Int.reduceLT, Int.reduceEq, Int.reduceNeg, Int.reduceAdd, Int.reduceMul, Nat.reduceMul, ms_n, ms_i, ms_l, ms_p, PM, fxM q5.1]
  refine cal_of rfl (m_takes (w := 6) (by decide) (wr_own 6 (by decide)) q5.1 q5.2.1 q5.2.2 p5.pos (fun μ1 e s1 g1 hi k1 p1 => ?_) (fun ν6 g6 p6 n5 => ?_))
  · obtain ⟨a1, a2, a3, a4, a5, a6, a7⟩ := word _ μ1 e s1 6 f5 g1 hi (by decide) k1
    simp (decide := true) only [RR, ms_app, toList_some, toList_none, if_true, if_false, true_and, and_true, cond_true, sm0, sm1, sm1l, sm2, lc_lt, lc_gt, lc_eq, Int.toNat_natCast, Int.reduceToNat, Nat.reduceAdd, Nat.reduceEqDiff, Int.reduceLT, Int.reduceEq, Int.reduceNeg, Int.reduceAdd, Int.reduceMul, Nat.reduceMul, ms_n, ms_i, ms_l, ms_p, PM]
    refine cal_of rfl (go _ _ μ1 _ ((m_ruleT (r := 1) (tk := 0) (by decide) (by decide)) a1 a2 a3 a4 p1 a5 (by omega) (hJ.at_6 hi k1 a7)) (fun μ2 hq => ?_))
    simp (decide := true) only [RR, ms_app, toList_some, toList_none, if_true, if_false, true_and, and_true, cond_true, sm0, sm1, sm1l, sm2, lc_lt, lc_gt, lc_eq, Int.toNat_natCast, Int.reduceToNat, Nat.reduceAdd, Nat.reduceEqDiff, Int.reduceLT, Int.reduceEq, Int.reduceNeg, Int.reduceAdd, Int.reduceMul, Nat.reduceMul, ms_n, ms_i, ms_l, ms_p, PM]
    exact hq
  have f6 := f5.trans g6
  have q6 := step ν6 f6
  simp (decide := true) only [RR, ms_app, toList_some, toList_none, if_true, if_false, true_and, and_true, cond_true, sm0, sm1, sm1l, sm2, lc_lt, lc_gt, lc_eq, Int.toNat_natCast, Int.reduceToNat, Nat.reduceAdd, Nat.reduceEqDiff, Int.reduceLT, Int.reduceEq, Int.reduceNeg, Int.reduceAdd, Int.reduceMul, Nat.reduceMul, ms_n, ms_i, ms_l, ms_p, PM]
  refine At.blk rfl rfl rfl fun sx => ?_
  simp (decide := true) only [RR, ms_app, toList_some, toList_none, if_true, if_false, true_and, and_true, cond_true, sm0, sm1, sm1l, sm2, lc_lt, lc_gt, lc_eq, Int.toNat_natCast, Int.reduceToNat, Nat.reduceAdd, Nat.reduceEqDiff, Int.reduceLT, Int.reduceEq, Int.reduceNeg, Int.reduceAdd, Int.reduceMul, Nat.reduceMul, ms_n, ms_i, ms_l, ms_p, PM, fxM q6.1]
  refine cal_of rfl (m_takes (w := 7) (by decide) (wr_own 7 (by decide)) q6.1 q6.2.1 q6.2.2 p6.pos (fun μ1 e s1 g1 hi k1 p1 => ?_) (fun ν7 g7 p7 n6 => ?_))
  · obtain ⟨a1, a2, a3, a4, a5, a6, a7⟩ := word _ μ1 e s1 7 f6 g1 hi (by decide) k1
    simp (decide := true) only [RR, ms_app, toList_some, toList_none, if_true, if_false, true_and, and_true, cond_true, sm0, sm1, sm1l, sm2, lc_lt, lc_gt, lc_eq, Int.toNat_natCast, Int.reduceToNat, Nat.reduceAdd, Nat.reduceEqDiff, Int.reduceLT, Int.reduceEq, Int.reduceNeg, Int.reduceAdd, Int.reduceMul, Nat.reduceMul, ms_n, ms_i, ms_l, ms_p, PM]
    refine cal_of rfl (go _ _ μ1 _ ((m_ruleT (r := 2) (tk := 1) (by decide) (by decide)) a1 a2 a3 a4 p1 a5 (by omega) (hJ.at_7 hi k1 a7)) (fun μ2 hq => ?_))
    simp (decide := true) only [RR, ms_app, toList_some, toList_none, if_true, if_false, true_and, and_true, cond_true, sm0, sm1, sm1l, sm2, lc_lt, lc_gt, lc_eq, Int.toNat_natCast, Int.reduceToNat, Nat.reduceAdd, Nat.reduceEqDiff, Int.reduceLT, Int.reduceEq, Int.reduceNeg, Int.reduceAdd, Int.reduceMul, Nat.reduceMul, ms_n, ms_i, ms_l, ms_p, PM]
    exact hq
  have f7 := f6.trans g7
  have q7 := step ν7 f7
  simp (decide := true) only [RR, ms_app, toList_some, toList_none, if_true, if_false, true_and, and_true, cond_true, sm0, sm1, sm1l, sm2, lc_lt, lc_gt, lc_eq, Int.toNat_natCast, Int.reduceToNat, Nat.reduceAdd, Nat.reduceEqDiff, Int.reduceLT, Int.reduceEq, Int.reduceNeg, Int.reduceAdd, Int.reduceMul, Nat.reduceMul, ms_n, ms_i, ms_l, ms_p, PM]
  refine At.blk rfl rfl rfl fun sx => ?_
  simp (decide := true) only [RR, ms_app, toList_some, toList_none, if_true, if_false, true_and, and_true, cond_true, sm0, sm1, sm1l, sm2, lc_lt, lc_gt, lc_eq, Int.toNat_natCast, Int.reduceToNat, Nat.reduceAdd, Nat.reduceEqDiff, Int.reduceLT, Int.reduceEq, Int.reduceNeg, Int.reduceAdd, Int.reduceMul, Nat.reduceMul, ms_n, ms_i, ms_l, ms_p, PM, fxM q7.1]
  refine cal_of rfl (m_takes (w := 8) (by decide) (wr_own 8 (by decide)) q7.1 q7.2.1 q7.2.2 p7.pos (fun μ1 e s1 g1 hi k1 p1 => ?_) (fun ν8 g8 p8 n7 => ?_))
  · obtain ⟨a1, a2, a3, a4, a5, a6, a7⟩ := word _ μ1 e s1 8 f7 g1 hi (by decide) k1
    simp (decide := true) only [RR, ms_app, toList_some, toList_none, if_true, if_false, true_and, and_true, cond_true, sm0, sm1, sm1l, sm2, lc_lt, lc_gt, lc_eq, Int.toNat_natCast, Int.reduceToNat, Nat.reduceAdd, Nat.reduceEqDiff, Int.reduceLT, Int.reduceEq, Int.reduceNeg, Int.reduceAdd, Int.reduceMul, Nat.reduceMul, ms_n, ms_i, ms_l, ms_p, PM, fxM a1]
    refine cal_of rfl ((m_gale (d := d + 10) a1 a2 a3 a4 p1 a5 (by omega) (hJ.at_8 hi k1 a7)).mono (fun r' μ2 hq => ?_))
    obtain ⟨v, rfl, hF2, -, hq⟩ := hq
    simp (decide := true) only [RR, ms_app, toList_some, toList_none, if_true, if_false, true_and, and_true, cond_true, sm0, sm1, sm1l, sm2, lc_lt, lc_gt, lc_eq, Int.toNat_natCast, Int.reduceToNat, Nat.reduceAdd, Nat.reduceEqDiff, Int.reduceLT, Int.reduceEq, Int.reduceNeg, Int.reduceAdd, Int.reduceMul, Nat.reduceMul, ms_n, ms_i, ms_l, ms_p, PM, fxM hF2]
    exact hq
  have f8 := f7.trans g8
  have q8 := step ν8 f8
  simp (decide := true) only [RR, ms_app, toList_some, toList_none, if_true, if_false, true_and, and_true, cond_true, sm0, sm1, sm1l, sm2, lc_lt, lc_gt, lc_eq, Int.toNat_natCast, Int.reduceToNat, Nat.reduceAdd, Nat.reduceEqDiff, Int.reduceLT, Int.reduceEq, Int.reduceNeg, Int.reduceAdd, Int.reduceMul, Nat.reduceMul, ms_n, ms_i, ms_l, ms_p, PM]
  refine At.blk rfl rfl rfl fun sx => ?_
  simp (decide := true) only [RR, ms_app, toList_some, toList_none, if_true, if_false, true_and, and_true, cond_true, sm0, sm1, sm1l, sm2, lc_lt, lc_gt, lc_eq, Int.toNat_natCast, Int.reduceToNat, Nat.reduceAdd, Nat.reduceEqDiff, Int.reduceLT, Int.reduceEq, Int.reduceNeg, Int.reduceAdd, Int.reduceMul, Nat.reduceMul, ms_n, ms_i, ms_l, ms_p, PM, fxM q8.1]
  refine cal_of rfl (m_asks (w := 9) (by decide) (wr_own 9 (by decide)) q8.1 q8.2.1 q8.2.2 p8.pos (fun μ1 e s1 g1 hi k1 p1 => ?_) (fun μ1 g1 n8 c5 c6 => ?_))
  · obtain ⟨a1, a2, a3, a4, a5, a6, a7⟩ := word _ μ1 e s1 9 f8 g1 hi (by decide) k1
    simp (decide := true) only [RR, ms_app, toList_some, toList_none, if_true, if_false, true_and, and_true, cond_true, sm0, sm1, sm1l, sm2, lc_lt, lc_gt, lc_eq, Int.toNat_natCast, Int.reduceToNat, Nat.reduceAdd, Nat.reduceEqDiff, Int.reduceLT, Int.reduceEq, Int.reduceNeg, Int.reduceAdd, Int.reduceMul, Nat.reduceMul, ms_n, ms_i, ms_l, ms_p, PM, fxM a1]
    refine cal_of rfl ((m_slip (d := d + 10) a1 a2 a3 a4 p1 a5 (by omega) (hJ.at_9 hi k1 a7)).mono (fun r' μ2 hq => ?_))
    obtain ⟨v, rfl, hF2, -, hq⟩ := hq
    simp (decide := true) only [RR, ms_app, toList_some, toList_none, if_true, if_false, true_and, and_true, cond_true, sm0, sm1, sm1l, sm2, lc_lt, lc_gt, lc_eq, Int.toNat_natCast, Int.reduceToNat, Nat.reduceAdd, Nat.reduceEqDiff, Int.reduceLT, Int.reduceEq, Int.reduceNeg, Int.reduceAdd, Int.reduceMul, Nat.reduceMul, ms_n, ms_i, ms_l, ms_p, PM, fxM hF2]
    exact hq
  · have F1 : Fr [] msT μ μ1 := (f8.mono rfl).trans g1
    have hF1 := hF.fr F1 rfl
    simp (decide := true) only [RR, ms_app, toList_some, toList_none, if_true, if_false, true_and, and_true, cond_true, sm0, sm1, sm1l, sm2, lc_lt, lc_gt, lc_eq, Int.toNat_natCast, Int.reduceToNat, Nat.reduceAdd, Nat.reduceEqDiff, Int.reduceLT, Int.reduceEq, Int.reduceNeg, Int.reduceAdd, Int.reduceMul, Nat.reduceMul, ms_n, ms_i, ms_l, ms_p, PM, fxM hF1]
    refine cal_of rfl (m_number_bad (by rw [c5]; decide) ?_)
    simp (decide := true) only [RR, ms_app, toList_some, toList_none, if_true, if_false, true_and, and_true, cond_true, sm0, sm1, sm1l, sm2, lc_lt, lc_gt, lc_eq, Int.toNat_natCast, Int.reduceToNat, Nat.reduceAdd, Nat.reduceEqDiff, Int.reduceLT, Int.reduceEq, Int.reduceNeg, Int.reduceAdd, Int.reduceMul, Nat.reduceMul, ms_n, ms_i, ms_l, ms_p, PM, fxM hF1]
    refine (hJ.none (fun w hw e => ?_) _ ((ms_cm F1).set (Or.inr (Or.inr (Or.inr (Or.inl ⟨rfl, by decide⟩))))) c5 c6).2
    rcases (show w = 0 ∨ w = 2 ∨ w = 3 ∨ w = 4 ∨ w = 5 ∨ w = 6 ∨ w = 7 ∨ w = 8 ∨ w = 9 by unfold cyW at hw; omega) with rfl | rfl | rfl | rfl | rfl | rfl | rfl | rfl | rfl
    · exact n0 e
    · exact n1 e
    · exact n2 e
    · exact n3 e
    · exact n4 e
    · exact n5 e
    · exact n6 e
    · exact n7 e
    · exact n8 e
end
