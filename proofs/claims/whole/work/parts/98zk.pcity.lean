theorem cyU_eq {r : Nat} : cyU r = (if r = 0 then 1 else if r = 1 then 2 else 6) := rfl
/-- a city that stands -/
theorem Inv.cityOk {σ σ1 τ μ : mM} (h : Inv σ) (f : Fr clL clT σ τ) (tn : cyTn σ1 τ) (f2 : Fr mciL mciT τ μ) (tp : cyTp σ1 μ) (e1 : τ 1 1 = 0 ∧ τ 19 2 = 0 ∧ τ 19 3 = -1 ∧ τ 39 1 = 0 ∧ τ 31 1 = 0 ∧ τ 41 3 = 0) (e2 : μ 146 1 = 0) (e3 : μ 146 7 = 0) (e4 : μ 146 8 = -1) (e5 : μ 146 65 = 0) (e6 : μ 146 58 = 0) : Inv μ := by
  obtain ⟨hF, hT, hR, hf, hZ, hP, hS, hC, hN, hk2, hU, hth⟩ := h
  obtain ⟨u1, u2, u3, u4, u5, u6⟩ := e1
  have v1 : μ 1 1 = 0 := (f2 1 1 rfl).trans u1
  have v2 : μ 19 2 = 0 := (f2 19 2 rfl).trans u2
  have v3 : μ 19 3 = -1 := (f2 19 3 rfl).trans u3
  have v4 : μ 39 1 = 0 := (f2 39 1 rfl).trans u4
  have v5 : μ 31 1 = 0 := (f2 31 1 rfl).trans u5
  have v6 : μ 41 3 = 0 := (f2 41 3 rfl).trans u6
  obtain ⟨L, hL, L16, ⟨t4, t5, t8, t9⟩, ⟨s2, s3, s4⟩, tp7, t16, trl⟩ := tn
  obtain ⟨n, m, c, n7, m12, c16, ⟨n1, n2⟩, ⟨m1, m2⟩, hc, ba, bd, g8, g9, nm, rl, ⟨z0, z29⟩, sky⟩ := tp
  have w4 : μ 3 4 = (n : Int) := by rw [f2 3 4 rfl, t4]; exact n1
  have w4n : (μ 3 4).toNat = n := by rw [w4]; rfl
  obtain rfl : c = L := by omega
  refine ⟨(hF.fr f rfl).fr f2 rfl, ⟨by rw [e2, v1], by rw [v1]; decide, fun k hk => by rw [v1] at hk; omega⟩, ?_, ⟨by rw [e3, v2], by rw [e4, v3]⟩, ?_, ?_, ⟨by rw [e6, v5], by rw [v5]; decide, fun k hk => by rw [v5] at hk; omega, fun k hk => by rw [v5] at hk; omega⟩, ?_, ?_, ⟨?_, by rw [v4]; decide, fun k hk => by rw [v4] at hk; omega⟩, ?_, ?_⟩
  · intro k hk
    rw [f2.row 148 rfl, f2.row 145 rfl, f.row 148 rfl, f.row 145 rfl]
    exact hR k hk
  · exact (hZ.cg (f 146 67 rfl) (f 0 13 rfl)).cg (f2 146 67 rfl) (f2 0 13 rfl)
  · exact (hP.cg (f 146 99 rfl) (f 0 12 rfl) (f.row 217 rfl) (f.row 144 rfl)).cg (f2 146 99 rfl) (f2 0 12 rfl) (f2.row 217 rfl) (f2.row 144 rfl)
  · refine ⟨⟨by rw [n2, w4], by rw [w4]; omega, by rw [w4]; omega⟩, ?_, ⟨?_, ?_⟩, ⟨?_, ?_⟩, fun p hp => ?_, fun r hr => ?_⟩
    · rw [m2, f2 3 5 rfl, t5, m1]
    · rw [g8.1, f2 3 8 rfl, t8]
    · rw [f2 3 8 rfl, t8]; exact g8.2
    · rw [g9.1, f2 3 9 rfl, t9]
    · rw [f2 3 9 rfl, t9]; exact g9.2
    · rw [w4] at hp
      have hp2 : p < n := by omega
      rw [w4n, f2.row 4 rfl, f2.row 6 rfl, (tp7 p (by omega)).1, (tp7 p (by omega)).2.1]
      exact nm p hp2
    · unfold RuleR
      rw [f2.row 9 rfl, f2.row 10 rfl, f2.row 8 rfl]
      rcases trl r hr with ⟨x0, x1, x2⟩ | ⟨x0, a, x1, x2, x3, x4⟩
      · rcases rl r hr with ⟨y0, y1⟩ | ⟨a, b, y1, y2, y3, y4, y5, y6, y7, y8⟩
        · exact absurd x0 y0
        · rw [x1, x2, y3, y4, y5, y6]
          refine ⟨by omega, Or.inr ⟨by omega, rfl, fun j hj => ?_, ?_⟩⟩
          · have hj2 : j < b - a := by omega
            rw [Int.toNat_natCast, t16 _ (by omega)]
            exact y7 j hj2
          · rw [Int.toNat_natCast, show ((b : Int) - (a : Int)).toNat = b - a by omega]
            exact y8
      · rcases rl r hr with ⟨y0, y1⟩ | ⟨a', b, y1, y2, y3, y4, y5, y6, y7, y8⟩
        · rw [x2, x3, y1]
          refine ⟨by omega, Or.inl ⟨rfl, rfl, ?_⟩⟩
          rw [Int.toNat_natCast, x4]
          exact cyU_eq
        · exfalso
          rw [y3, y4] at x0
          omega
  · show μ 182 0 = μ 28 2 ∧ (0 ≤ μ 28 2 ∧ μ 28 2 ≤ 999) ∧ (0 ≤ μ 28 3 ∧ μ 28 3 < 2 ^ (μ 3 4).toNat) ∧ (0 ≤ μ 28 4 ∧ μ 28 4 < 2 ^ (μ 3 4).toNat) ∧ ∀ p : Nat, (p : Int) < μ 3 4 → (μ 182 (0 + (1 + 4 * p)) = μ 29 p ∧ 0 ≤ μ 29 p ∧ μ 29 p ≤ 20) ∧ μ 182 (0 + (2 + 4 * p)) = bit (μ 28 3) p ∧ μ 182 (0 + (3 + 4 * p)) = bit (μ 28 4) p ∧ ActR (μ 30 p) (μ 182 (0 + (4 + 4 * p)))
    rw [w4n, f2.row 28 rfl, f2.row 29 rfl, f2.row 30 rfl, s2, s3, s4]
    refine ⟨z0, by decide, ba, bd, fun p hp => ?_⟩
    rw [w4] at hp
    obtain ⟨q1, q2, q3, q4⟩ := sky p (by omega)
    rw [Nat.zero_add, Nat.zero_add, Nat.zero_add, Nat.zero_add, (tp7 p (by omega)).2.2.1, (tp7 p (by omega)).2.2.2]
    exact ⟨q1, q2, q3, Or.inr (Or.inr ⟨rfl, q4⟩)⟩
  · rw [v4]; exact z29
  · obtain ⟨a1, a2, a3, a4, a5⟩ := hU
    have x66 : μ 146 66 = σ 146 66 := (f2 146 66 rfl).trans (f 146 66 rfl)
    have x41 : μ 41 2 = σ 41 2 := (f2 41 2 rfl).trans (f 41 2 rfl)
    refine ⟨by rw [e5, v6], by rw [v6]; decide, by rw [x66]; exact a3, by rw [x66, x41]; exact a4, fun j hj => by rw [v6] at hj; omega⟩
  · rw [f2 146 53 rfl, f 146 53 rfl]; exact hth
/-- a city that does not -/
theorem Inv.cityNo {σ τ μ : mM} (h : Inv σ) (f : Fr (145 :: cyL) ((1, 1) :: cyT) σ τ) (k2 : cyK mciU τ μ) (e1 : τ 1 1 = 0) (e2 : μ 146 1 = 0) (e3 : μ 146 7 = τ 19 2) (e4 : μ 146 8 = τ 19 3) (r1 : τ 145 1 = w32 (σ 145 1 + 1)) (r2 : ∀ j, j ≠ 1 → τ 145 j = σ 145 j) (r3 : μ 148 1 = w32 (τ 148 1 + 1)) : Inv μ := by
  obtain ⟨hF, hT, hR, hf, hZ, hP, hS, hC, hN, hk2, hU, hth⟩ := h
  have f2 := k2.fr
  have v1 : μ 1 1 = 0 := (f2 1 1 rfl).trans e1
  have g : Fr (145 :: 148 :: 173 :: 174 :: 175 :: 176 :: 177 :: 178 :: 179 :: 180 :: 181 :: 214 :: 215 :: cyL) ((1, 1) :: (146, 1) :: (146, 2) :: (146, 3) :: (146, 4) :: (146, 5) :: (146, 6) :: (146, 7) :: (146, 8) :: (146, 34) :: (146, 44) :: (146, 45) :: (146, 46) :: (146, 89) :: (146, 91) :: (146, 92) :: (146, 93) :: cyT) σ μ := (f.mono rfl).trans (f2.mono rfl)
  have up : ∀ q k, 173 ≤ q → q ≤ 181 → cmL.elem q = false → ¬cyQ q k → μ q k = σ q k := by
    intro q k h1 h2 h3 h4
    rw [k2 q k ?_ h4]
    · rcases (show q = 173 ∨ q = 174 ∨ q = 175 ∨ q = 176 ∨ q = 177 ∨ q = 178 ∨ q = 179 ∨ q = 180 ∨ q = 181 by omega) with rfl | rfl | rfl | rfl | rfl | rfl | rfl | rfl | rfl
      all_goals exact f _ _ rfl
    · rw [h3]
      rcases (show q = 173 ∨ q = 174 ∨ q = 175 ∨ q = 176 ∨ q = 177 ∨ q = 178 ∨ q = 179 ∨ q = 180 ∨ q = 181 by omega) with rfl | rfl | rfl | rfl | rfl | rfl | rfl | rfl | rfl
      all_goals rfl
  refine ⟨hF.fr g rfl, ⟨by rw [e2, v1], by rw [v1]; decide, fun k hk => by rw [v1] at hk; omega⟩, ?_, ⟨by rw [e3, f2 19 2 rfl], by rw [e4, f2 19 3 rfl]⟩, hZ.cg (g 146 67 rfl) (g 0 13 rfl), hP.cg (g 146 99 rfl) (g 0 12 rfl) (g.row 217 rfl) (g.row 144 rfl), hS.cg (g 146 58 rfl) (g 31 1 rfl) (g.row 189 rfl) (g.row 32 rfl) (g 3 4 rfl), ?_, hN.cg (g.row 182 rfl) (g.row 28 rfl) (g.row 29 rfl) (g.row 30 rfl) (g 3 4 rfl), hk2.cg (g.row 182 rfl) (g.row 39 rfl) (g.row 40 rfl), hU.cg (g 146 65 rfl) (g 41 3 rfl) (g 146 66 rfl) (g 41 2 rfl) (g 3 4 rfl) (g.row 193 rfl) (fun q h1 h2 => ?_), by rw [g 146 53 rfl]; exact hth⟩
  · intro k hk
    have x145 : μ 145 k = τ 145 k := f2 145 k rfl
    rw [x145]
    by_cases c : k = 1
    · subst c
      rw [r3, r1, f 148 1 rfl, hR 1 (by decide)]
    · rw [r2 k c, k2 148 k ?_ (by unfold cyQ; omega), f 148 k rfl]
      · exact hR k hk
      · rcases (show k = 0 ∨ k = 2 ∨ k = 3 ∨ k = 4 ∨ k = 5 by omega) with rfl | rfl | rfl | rfl | rfl <;> rfl
  · exact hC.cgE (up 173 2 (by decide) (by decide) rfl (by unfold cyQ; omega)) (up 173 3 (by decide) (by decide) rfl (by unfold cyQ; omega)) (g.row 3 rfl) (up 178 2 (by decide) (by decide) rfl (by unfold cyQ; omega)) (up 178 3 (by decide) (by decide) rfl (by unfold cyQ; omega)) (g.row 4 rfl) (fun p hp => up 174 (7 + p) (by decide) (by decide) rfl (by unfold cyQ; omega)) (fun p hp => up 176 (7 + p) (by decide) (by decide) rfl (by unfold cyQ; omega)) (g.row 6 rfl) (g.row 9 rfl) (g.row 10 rfl) (g.row 8 rfl) (fun r hr => up 179 (3 + r) (by decide) (by decide) rfl (by unfold cyQ; omega)) (fun r hr => up 180 (3 + r) (by decide) (by decide) rfl (by unfold cyQ; omega)) (fun j hj => up 181 (1600 + j) (by decide) (by decide) rfl (by unfold cyQ; omega))
  · exact g.hist rfl rfl h1 h2
theorem p_city {σ : mM} (h : Inv σ) : PairI Inv 108 175 [] σ := by
  have hF := h.1
  obtain ⟨t1, t2, t3⟩ := h.2.1
  obtain ⟨N, hN⟩ := Int.eq_ofNat_of_zero_le t2.1
  have hT : TxX σ N (fun k => σ 2 k) := ⟨hN, by omega, fun k hk => ⟨rfl, (t3 k (by omega)).2⟩⟩
  refine x_city (d := 957) hF hT (fun σ' σ0 σ1 s0 m f k0 hz hm hs tn e => ⟨_, rfl, ?_⟩) (fun σ' σ0 s0 k x f k0 hz hx e r1 r2 => ⟨_, rfl, ?_⟩)
  · refine m_city (d := 985) (hF.fr f rfl) (N := N) (t := fun k => σ 2 k) (by rw [f 146 1 rfl, t1, hN]) (by omega) (fun k hk => by rw [f.row 147 rfl]; exact t3 k (by omega)) (Or.inl ⟨σ0, s0, m, σ1, k0, hz, hm, hs, fun μ f2 tp a1 a7 a8 a65 a58 => ⟨rfl, ?_⟩⟩)
    exact h.cityOk f tn f2 tp e a1 a7 a8 a65 a58
  · refine m_city (d := 985) (hF.fr f rfl) (N := N) (t := fun k => σ 2 k) (by rw [f 146 1 rfl, t1, hN]) (by omega) (fun k hk => by rw [f.row 147 rfl]; exact t3 k (by omega)) (Or.inr ⟨σ0, s0, k, x, k0, hz, hx, fun μ k2 a1 a7 a8 r3 => ⟨rfl, ?_⟩⟩)
    exact h.cityNo f k2 e.1 a1 (by rw [a7, e.2.1]) (by rw [a8, e.2.2]) r1 r2 r3
