/-! the invariant behind keeps; acts -/
theorem SkyR.mv {σ σ' : mM} {s q o s' q' o' : Nat} (h : SkyR σ s q o) (hn : σ 3 4 ≤ 7) (e0 : σ' 3 4 = σ 3 4) (e2 : σ' s' 2 = σ s 2) (e3 : σ' s' 3 = σ s 3) (e4 : σ' s' 4 = σ s 4) (f1 : ∀ p, p < 7 → σ' (s' + 1) p = σ (s + 1) p) (f2 : ∀ p, p < 7 → σ' (s' + 2) p = σ (s + 2) p) (g : ∀ k, k < 29 → σ' q' (o' + k) = σ q (o + k)) : SkyR σ' s' q' o' := by
  obtain ⟨h1, h2, h3, h4, h5⟩ := h
  have g0 := g 0 (by omega)
  simp only [Nat.add_zero] at g0
  refine ⟨by rw [g0, e2, h1], by rw [e2]; exact h2, by rw [e3, e0]; exact h3, by rw [e4, e0]; exact h4, fun p hp => ?_⟩
  rw [e0] at hp
  obtain ⟨a1, a2, a3, a4⟩ := h5 p hp
  rw [g (1 + 4 * p) (by omega), g (2 + 4 * p) (by omega), g (3 + 4 * p) (by omega), g (4 + 4 * p) (by omega), f1 p (by omega), f2 p (by omega), e3, e4]
  exact ⟨a1, a2, a3, a4⟩
theorem KeptR.mv {σ σ' : mM} {s q o s' q' o' : Nat} (h : KeptR σ s q o) (e1 : σ' s' 1 = σ s 1) (f1 : ∀ p, p < 40 → σ' (s' + 1) p = σ (s + 1) p) (g : ∀ k, k < 150 → σ' q' (o' + k) = σ q (o + k)) : KeptR σ' s' q' o' := by
  obtain ⟨h1, h2, h3⟩ := h
  refine ⟨by rw [g 29 (by omega), e1, h1], by rw [e1]; exact h2, fun k hk => ?_⟩
  rw [e1] at hk
  rw [g (30 + 3 * k) (by omega), g (31 + 3 * k) (by omega), g (32 + 3 * k) (by omega), f1 k (by omega)]
  exact h3 k hk
theorem remC_ne {σ : mM} {x c q : Nat} (h1 : q ≠ 41) (h2 : q < 44 + 5 * x ∨ 48 + 5 * x < q) : remC σ x c q = σ q := by
  unfold remC
  rw [ms_row h1, ms_row h1, kepC_ne (by omega), skyC_ne (by omega)]
theorem remC_41 {σ : mM} {x c k : Nat} (h1 : k ≠ 2) (h2 : k ≠ 3) : remC σ x c 41 k = σ 41 k := by
  unfold remC
  rw [ms_app, if_pos rfl, if_neg h2, ms_app, if_pos rfl, if_neg h1, kepC_ne (by omega), skyC_ne (by omega)]
theorem keepM_ne {σ : mM} {x c q : Nat} (h1 : q ≠ 193) (h2 : q ≠ 146) : keepM σ x c q = σ q := by
  unfold keepM
  rw [ms_row h2]
  funext k
  unfold keepP
  rw [if_neg h1, if_neg h2]
theorem keepM_146 {σ : mM} {x c k : Nat} (h1 : k ≠ 65) (h2 : k ≠ 66) : keepM σ x c 146 k = σ 146 k := by
  unfold keepM
  rw [ms_app, if_pos rfl, if_neg h1]
  unfold keepP
  rw [if_neg (by decide), if_pos rfl, if_neg h2]
theorem keepM_193 {σ : mM} {x c k : Nat} : keepM σ x c 193 k = if 150 * ((x + 1) % 20) ≤ k ∧ k < 150 * ((x + 1) % 20) + 150 then σ 182 (k - 150 * ((x + 1) % 20)) else σ 193 k := by
  unfold keepM
  rw [ms_app, if_neg (by decide)]
  unfold keepP
  rw [if_pos rfl]
theorem fix_remC {σ : mM} {x c : Nat} (hF : Fix σ) (hx : x < 20) : Fix (remC σ x c) := by
  unfold remC
  obtain ⟨hs, hk⟩ := sky_all x hx
  exact ((fix_kepC (fix_skyC hF hs) hk).set rfl).set rfl
theorem fix_keepM {σ : mM} {x c : Nat} (hF : Fix σ) : Fix (keepM σ x c) := (fix_keepP hF).set rfl
theorem Inv.keep {σ : mM} {x c : Nat} (h : Inv σ) (hx : σ 146 66 = (x : Int)) (hc : σ 41 3 = (c : Int)) : Inv (keepM (remC σ x c) x c) := by
  obtain ⟨hF, hT, hR, hf, hZ, hP, hS, hC, hN, hk2, hU, hth⟩ := h
  obtain ⟨u1, u2, u3, u4, u5⟩ := hU
  have hx2 : x < 20 := by omega
  have e1 : ∀ q, q ≠ 193 → q ≠ 146 → q ≠ 41 → (q < 44 ∨ 143 < q) → keepM (remC σ x c) x c q = σ q := fun q h1 h2 h3 h4 => (keepM_ne h1 h2).trans (remC_ne h3 (by omega))
  have e2 : ∀ k, k ≠ 65 → k ≠ 66 → keepM (remC σ x c) x c 146 k = σ 146 k := fun k h1 h2 => (keepM_146 h1 h2).trans (by rw [remC_ne (by omega) (by omega)])
  have n34 : keepM (remC σ x c) x c 3 4 = σ 3 4 := by rw [e1 3 (by decide) (by decide) (by decide) (by decide)]
  have q := fun q h1 h2 h3 h4 => e1 q h1 h2 h3 h4
  have e65 : keepM (remC σ x c) x c 146 65 = ((min (c + 1) 20 : Nat) : Int) := rfl
  have e66 : keepM (remC σ x c) x c 146 66 = (((x + 1) % 20 : Nat) : Int) := rfl
  have e413 : keepM (remC σ x c) x c 41 3 = ((min (c + 1) 20 : Nat) : Int) := rfl
  have e412 : keepM (remC σ x c) x c 41 2 = (((x + 1) % 20 : Nat) : Int) := rfl
  refine ⟨fix_keepM (fix_remC hF hx2), hT.cg (e2 1 (by decide) (by decide)) (by rw [q 1 (by decide) (by decide) (by decide) (by decide)]) (q 147 (by decide) (by decide) (by decide) (by decide)) (q 2 (by decide) (by decide) (by decide) (by decide)), hR.cg (q 148 (by decide) (by decide) (by decide) (by decide)) (q 145 (by decide) (by decide) (by decide) (by decide)), hf.cg (e2 7 (by decide) (by decide)) (by rw [q 19 (by decide) (by decide) (by decide) (by decide)]) (e2 8 (by decide) (by decide)) (by rw [q 19 (by decide) (by decide) (by decide) (by decide)]), hZ.cg (e2 67 (by decide) (by decide)) (by rw [q 0 (by decide) (by decide) (by decide) (by decide)]), hP.cg (e2 99 (by decide) (by decide)) (by rw [q 0 (by decide) (by decide) (by decide) (by decide)]) (q 217 (by decide) (by decide) (by decide) (by decide)) (q 144 (by decide) (by decide) (by decide) (by decide)), hS.cg (e2 58 (by decide) (by decide)) (by rw [q 31 (by decide) (by decide) (by decide) (by decide)]) (q 189 (by decide) (by decide) (by decide) (by decide)) (q 32 (by decide) (by decide) (by decide) (by decide)) n34, ?_, hN.cg (q 182 (by decide) (by decide) (by decide) (by decide)) (q 28 (by decide) (by decide) (by decide) (by decide)) (q 29 (by decide) (by decide) (by decide) (by decide)) (q 30 (by decide) (by decide) (by decide) (by decide)) n34, hk2.cg (q 182 (by decide) (by decide) (by decide) (by decide)) (q 39 (by decide) (by decide) (by decide) (by decide)) (q 40 (by decide) (by decide) (by decide) (by decide)), ?_, (e2 53 (by decide) (by decide)).trans hth⟩
  · exact hC.cg (q 173 (by decide) (by decide) (by decide) (by decide)) (q 3 (by decide) (by decide) (by decide) (by decide)) (q 178 (by decide) (by decide) (by decide) (by decide)) (q 4 (by decide) (by decide) (by decide) (by decide)) (q 174 (by decide) (by decide) (by decide) (by decide)) (q 176 (by decide) (by decide) (by decide) (by decide)) (q 6 (by decide) (by decide) (by decide) (by decide)) (q 9 (by decide) (by decide) (by decide) (by decide)) (q 10 (by decide) (by decide) (by decide) (by decide)) (q 8 (by decide) (by decide) (by decide) (by decide)) (q 179 (by decide) (by decide) (by decide) (by decide)) (q 180 (by decide) (by decide) (by decide) (by decide)) (q 181 (by decide) (by decide) (by decide) (by decide))
  · have n7 : σ 3 4 ≤ 7 := hC.1.2.2
    refine ⟨by rw [e65, e413], by rw [e413]; omega, by rw [e66]; omega, by rw [e412, e66], fun j hj => ?_⟩
    rw [e413] at hj
    rw [e66]
    by_cases j0 : j = 0
    · -- the newest one
      subst j0
      have i1 : ((((x + 1) % 20 : Nat) : Int) - 1 - ((0 : Nat) : Int)) % 20 = (x : Int) := by omega
      have i2 : ((((x + 1) % 20 : Nat) : Int) - ((0 : Nat) : Int)) % 20 = (((x + 1) % 20 : Nat) : Int) := by omega
      rw [i1, i2, Int.toNat_natCast, Int.toNat_natCast]
      have k193 : ∀ k, k < 150 → keepM (remC σ x c) x c 193 (150 * ((x + 1) % 20) + k) = σ 182 (0 + k) := by
        intro k hk
        rw [keepM_193, if_pos (by omega), Nat.add_sub_cancel_left, Nat.zero_add, remC_ne (by omega) (by omega)]
      have sk : ∀ q k, (q = 44 + 5 * x ∨ q = 44 + 5 * x + 1 ∨ q = 44 + 5 * x + 2) → keepM (remC σ x c) x c q k = skyC σ (44 + 5 * x) 28 q k := by
        intro q k hq
        rw [keepM_ne (by omega) (by omega)]
        unfold remC
        rw [ms_row (by omega), ms_row (by omega), kepC_ne (by omega)]
      have kk : ∀ q k, (q = 47 + 5 * x ∨ q = 47 + 5 * x + 1) → keepM (remC σ x c) x c q k = kepC (skyC σ (44 + 5 * x) 28) (47 + 5 * x) 39 q k := by
        intro q k hq
        rw [keepM_ne (by omega) (by omega)]
        unfold remC
        rw [ms_row (by omega), ms_row (by omega)]
      refine ⟨hN.mv n7 n34 ?_ ?_ ?_ (fun p hp => ?_) (fun p hp => ?_) (fun k hk => k193 k (by omega)), hk2.mv ?_ (fun p hp => ?_) k193⟩
      · rw [sk _ _ (by omega)]; unfold skyC; rw [if_neg (by omega), if_neg (by omega), if_pos rfl, if_pos rfl]
      · rw [sk _ _ (by omega)]; unfold skyC; rw [if_neg (by omega), if_neg (by omega), if_pos rfl, if_neg (by omega), if_pos rfl]
      · rw [sk _ _ (by omega)]; unfold skyC; rw [if_neg (by omega), if_neg (by omega), if_pos rfl, if_neg (by omega), if_neg (by omega), if_pos rfl]
      · rw [sk _ _ (by omega)]; unfold skyC; rw [if_pos rfl, if_pos hp]
      · rw [sk _ _ (by omega)]; unfold skyC; rw [if_neg (by omega), if_pos rfl, if_pos hp]
      · rw [kk _ _ (by omega)]; unfold kepC; rw [if_neg (by omega), if_pos rfl, if_pos rfl, skyC_ne (by omega)]
      · rw [kk _ _ (by omega)]; unfold kepC; rw [if_pos rfl, if_pos hp, skyC_ne (by omega)]
    · -- an older one
      have old := u5 (j - 1) (by omega)
      rw [hx] at old
      have i1 : ((((x + 1) % 20 : Nat) : Int) - 1 - (j : Int)) % 20 = ((x : Int) - 1 - ((j - 1 : Nat) : Int)) % 20 := by omega
      have i2 : ((((x + 1) % 20 : Nat) : Int) - (j : Int)) % 20 = ((x : Int) - ((j - 1 : Nat) : Int)) % 20 := by omega
      rw [i1, i2]
      have a1 : (((x : Int) - 1 - ((j - 1 : Nat) : Int)) % 20).toNat ≠ x ∧ (((x : Int) - 1 - ((j - 1 : Nat) : Int)) % 20).toNat < 20 := by omega
      have a2 : (((x : Int) - ((j - 1 : Nat) : Int)) % 20).toNat ≠ (x + 1) % 20 ∧ (((x : Int) - ((j - 1 : Nat) : Int)) % 20).toNat < 20 := by omega
      generalize (((x : Int) - 1 - ((j - 1 : Nat) : Int)) % 20).toNat = A at *
      generalize (((x : Int) - ((j - 1 : Nat) : Int)) % 20).toNat = B at *
      have k193 : ∀ k, k < 150 → keepM (remC σ x c) x c 193 (150 * B + k) = σ 193 (150 * B + k) := by
        intro k hk
        rw [keepM_193, if_neg (by omega), remC_ne (by omega) (by omega)]
      have rw' : ∀ q, 44 + 5 * A ≤ q → q ≤ 48 + 5 * A → keepM (remC σ x c) x c q = σ q := fun q h1 h2 => (keepM_ne (by omega) (by omega)).trans (remC_ne (by omega) (by omega))
      refine ⟨old.1.mv n7 n34 ?_ ?_ ?_ (fun p hp => ?_) (fun p hp => ?_) (fun k hk => k193 k (by omega)), old.2.mv ?_ (fun p hp => ?_) k193⟩
      all_goals rw [rw' _ (by omega) (by omega)]
