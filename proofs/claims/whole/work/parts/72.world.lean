/-! THE WORLD of the invariant: the city, the sky, what is KEPT, out of memory -/
theorem tys_rep : ∀ (cs : List Int) (n m : Nat), (∀ c ∈ cs, (1000 ≤ c ∧ c ≤ 10999) ∨ (40 ≤ c ∧ c ≤ 45) ∨ (1 ≤ c ∧ c ≤ 6)) → hts 64 cs n = some m → tys cs (List.replicate n false) = some (List.replicate m false)
  | [], n, m, _, h => by cases h; rfl
  | c :: cs, n, m, hc, h => by
    have ih := fun n' h' => tys_rep cs n' m (fun x hx => hc x (List.mem_cons_of_mem _ hx)) h'
    have c0 := hc c List.mem_cons_self
    simp only [hts] at h
    simp only [tys]
    rcases c0 with c0 | c0 | c0
    · rw [if_pos (by omega)] at h
      split at h
      · rename_i hl
        have : tyC c (List.replicate n false) = some (List.replicate (n + 1) false) := by
          unfold tyC
          rw [if_pos c0.1, if_pos ⟨c0.2, by rw [List.length_replicate]; exact hl⟩]; rfl
        rw [this]; exact ih _ h
      · cases h
    · rw [if_pos (by omega)] at h
      split at h
      · rename_i hl
        have : tyC c (List.replicate n false) = some (List.replicate (n + 1) false) := by
          unfold tyC
          rw [if_neg (by omega), if_neg (by omega), if_pos (by omega), if_pos ⟨by omega, by rw [List.length_replicate]; exact hl⟩]; rfl
        rw [this]; exact ih _ h
      · cases h
    · rw [if_neg (by omega), if_neg (by omega)] at h
      split at h
      · rename_i hl
        obtain ⟨k, rfl⟩ : ∃ k, n = k + 2 := ⟨n - 2, by omega⟩
        have : tyC c (List.replicate (k + 2) false) = some (List.replicate (k + 1) false) := by
          unfold tyC
          rw [if_neg (by omega), if_neg (by omega), if_neg (by omega), if_neg (by omega), if_neg (by omega), if_pos (by omega)]
          simp [ty2, List.replicate_succ]
        rw [this]; exact ih _ h
      · cases h
def rlOf (σ : mM) (r : Nat) : List Int := if σ 179 (3 + r) = -1 then [if r = 0 then 40 else if r = 1 then 41 else 45] else codesOf σ 181 (1600 + (σ 179 (3 + r)).toNat) (σ 10 r - σ 9 r).toNat
def ctOf (σ : mM) : Ct := ((σ 3 4).toNat, σ 3 8, σ 6, rlOf σ)
def skOf (σ : mM) : Sk := (σ 28 2, σ 29, bit (σ 28 3), bit (σ 28 4), fun p => σ 182 (4 + 4 * p))
def kpOf (σ : mM) : Kp := (List.range (σ 39 1).toNat).map (fun k => (σ 182 (30 + 3 * k), σ 182 (31 + 3 * k), σ 182 (32 + 3 * k)))
theorem codesOf_len {σ : mM} {q o n : Nat} : (codesOf σ q o n).length = n := by unfold codesOf; rw [List.length_map, List.length_range]
theorem codesOf_get {σ : mM} {q o n j : Nat} (h : j < (codesOf σ q o n).length) : (codesOf σ q o n)[j] = σ q (o + j) := by
  simp only [codesOf, List.getElem_map, List.getElem_range]
theorem codesOf_mem {σ : mM} {q o n : Nat} {c : Int} (h : c ∈ codesOf σ q o n) : ∃ j, j < n ∧ c = σ q (o + j) := by
  unfold codesOf at h
  obtain ⟨j, hj, e⟩ := List.mem_map.mp h
  exact ⟨j, List.mem_range.mp hj, e.symm⟩
theorem rl_ok {σ : mM} {r : Nat} (hr : r < 3) (h : RuleR σ r) : (tys (rlOf σ r) [] = some [false] ∧ (r < 2 → 45 ∉ rlOf σ r) ∧ ∀ c ∈ rlOf σ r, c ≠ 60 ∧ c ≠ 12 ∧ c ≠ 13) ∧ RlX σ 8 9 10 r (rlOf σ r) ∧ RlM σ r (rlOf σ r) := by
  obtain ⟨⟨h1, h2, h3⟩, h | ⟨⟨a1, a2, a3⟩, e1, e2, e3⟩⟩ := h
  · obtain ⟨n1, n2, n3⟩ := h
    have e : rlOf σ r = [if r = 0 then 40 else if r = 1 then 41 else 45] := by unfold rlOf; rw [if_pos n1]
    rw [e]
    refine ⟨?_, ⟨(σ 9 r).toNat, by omega, by simp only [List.length_singleton]; omega, by simp only [List.length_singleton]; omega, fun j hj => ?_⟩, Or.inl ⟨n1, rfl⟩⟩
    · rcases (show r = 0 ∨ r = 1 ∨ r = 2 by omega) with rfl | rfl | rfl
      · exact ⟨rfl, by decide, by decide⟩
      · exact ⟨rfl, by decide, by decide⟩
      · exact ⟨rfl, by decide, by decide⟩
    · simp only [List.length_singleton] at hj
      obtain rfl : j = 0 := by omega
      rw [Nat.add_zero, n3]
      simp only [List.getElem_cons_zero]
      rcases (show r = 0 ∨ r = 1 ∨ r = 2 by omega) with rfl | rfl | rfl
      · exact Or.inr (Or.inr (Or.inl ⟨1, by decide, rfl, rfl⟩))
      · exact Or.inr (Or.inr (Or.inl ⟨2, by decide, rfl, rfl⟩))
      · exact Or.inr (Or.inr (Or.inl ⟨6, by decide, rfl, rfl⟩))
  · have e : rlOf σ r = codesOf σ 181 (1600 + (σ 179 (3 + r)).toNat) (σ 10 r - σ 9 r).toNat := by unfold rlOf; rw [if_neg (by omega)]
    rw [e]
    have hm : ∀ c ∈ codesOf σ 181 (1600 + (σ 179 (3 + r)).toNat) (σ 10 r - σ 9 r).toNat, (1000 ≤ c ∧ c ≤ 10999) ∨ (40 ≤ c ∧ c ≤ 45 ∧ (r < 2 → c ≤ 44)) ∨ (1 ≤ c ∧ c ≤ 6) := by
      intro c hc
      obtain ⟨j, j1, rfl⟩ := codesOf_mem hc
      have := e2 j (by omega)
      rw [← Nat.add_assoc] at this
      rcases this with ⟨v, v1, v2, v3⟩ | ⟨k, k1, k2, k3⟩ | ⟨k, k1, k2, k3⟩
      · rw [v3]; exact Or.inl (by omega)
      · rw [k3]
        refine Or.inr (Or.inl ?_)
        split at k1 <;> omega
      · rw [k3]; exact Or.inr (Or.inr (by omega))
    have ht : tys (codesOf σ 181 (1600 + (σ 179 (3 + r)).toNat) (σ 10 r - σ 9 r).toNat) (List.replicate 0 false) = some (List.replicate 1 false) := tys_rep _ 0 1 (fun c hc => by have := hm c hc; omega) e3
    refine ⟨⟨ht, fun h hc => ?_, fun c hc => ?_⟩, ⟨(σ 9 r).toNat, by omega, by rw [codesOf_len]; omega, by rw [codesOf_len]; omega, fun j hj => ?_⟩, Or.inr ⟨(σ 179 (3 + r)).toNat, by omega, by rw [codesOf_len]; omega, by rw [codesOf_len]; omega, fun j hj => ?_⟩⟩
    · have := hm 45 hc; omega
    · have := hm c hc; omega
    · rw [codesOf_get]
      rw [codesOf_len] at hj
      have := e2 j (by omega)
      rw [Nat.add_assoc]
      rcases this with ⟨v, v1, v2, v3⟩ | ⟨k, k1, k2, k3⟩ | ⟨k, k1, k2, k3⟩
      · exact Or.inl ⟨v, v1, v2, v3⟩
      · exact Or.inr (Or.inr (Or.inl ⟨k, by split at k1 <;> omega, k2, k3⟩))
      · exact Or.inr (Or.inr (Or.inr (Or.inr (Or.inr ⟨k, by omega, k2, k3⟩))))
    · rw [codesOf_get, Nat.add_assoc]
/-- all that is known of memory at a call's beginning -/
def Wrl (σ : mM) (C : Ct) (w : Sk) (l : Kp) : Prop := CtV C ∧ CtX σ C ∧ CtM σ C ∧ SkV C w ∧ SkX σ 28 C w ∧ SkM σ C w ∧ KpX σ l ∧ KpM σ l ∧ KpV l ∧ (0 ≤ w.1 ∧ w.1 ≤ 999)
theorem Inv.wrl {σ : mM} (h : Inv σ) : ∃ C w l, Wrl σ C w l := by
  obtain ⟨hF, hT, hR, hf, hZ, hP, hS, hC, hN, hk2, hU, hth⟩ := h
  obtain ⟨⟨c1, c2, c3⟩, c4, ⟨c5, c6, c7⟩, c8, c9, c10⟩ := hC
  obtain ⟨n1, n2, n3, n4, n5⟩ := hN
  obtain ⟨k1, k2, k3⟩ := hk2
  have e34 : ((σ 3 4).toNat : Int) = σ 3 4 := by omega
  simp only [Nat.zero_add] at n5 k1 k3
  have kl : (kpOf σ).length = (σ 39 1).toNat := by unfold kpOf; rw [List.length_map, List.length_range]
  have kg : ∀ (k : Nat) (hk : k < (kpOf σ).length), (kpOf σ)[k] = (σ 182 (30 + 3 * k), σ 182 (31 + 3 * k), σ 182 (32 + 3 * k)) := fun k hk => by
    simp only [kpOf, List.getElem_map, List.getElem_range]
  refine ⟨ctOf σ, skOf σ, kpOf σ, ⟨by show (σ 3 4).toNat ≤ 7; omega, ⟨c6, c7⟩, fun p hp => ?_, fun r hr => (rl_ok hr (c10 r hr)).1⟩, ⟨e34.symm, rfl, fun p hp => rfl, fun r hr => (rl_ok hr (c10 r hr)).2.1⟩, ⟨by rw [c1]; exact e34.symm, c5, fun p hp => ?_, fun r hr => (rl_ok hr (c10 r hr)).2.2⟩, ⟨by show 0 ≤ σ 28 2 ∧ σ 28 2 ≤ 5000; omega, fun p hp => ?_⟩, ⟨rfl, n3, n4, fun p hp => ?_⟩, ⟨n1, fun p hp => ?_⟩, ⟨by rw [kl]; omega, fun k hk => ?_⟩, ⟨by rw [kl]; omega, fun k hk => ?_⟩, ⟨by rw [kl]; omega, fun k hk => ?_⟩, n2⟩
  · have hp : p < (σ 3 4).toNat := hp
    exact (c9 p (by omega)).2.2
  · have hp : p < (σ 3 4).toNat := hp
    exact (c9 p (by omega)).2.1
  · have hp : p < (σ 3 4).toNat := hp
    obtain ⟨m1, m2, m3, m4⟩ := n5 p (by omega)
    have b3 := bit01 (v := σ 28 3) (p := p)
    have b4 := bit01 (v := σ 28 4) (p := p)
    refine ⟨m1.2, by show bit (σ 28 3) p = 0 ∨ bit (σ 28 3) p = 1; omega, by show bit (σ 28 4) p = 0 ∨ bit (σ 28 4) p = 1; omega, ?_⟩
    show -2 ≤ σ 182 (4 + 4 * p) ∧ σ 182 (4 + 4 * p) ≤ 20
    unfold ActR at m4
    omega
  · have hp : p < (σ 3 4).toNat := hp
    obtain ⟨m1, m2, m3, m4⟩ := n5 p (by omega)
    exact ⟨rfl, rfl, rfl, m4⟩
  · have hp : p < (σ 3 4).toNat := hp
    obtain ⟨m1, m2, m3, m4⟩ := n5 p (by omega)
    exact ⟨m1.1, m2, m3, rfl⟩
  · rw [kg]; rw [kl] at hk
    exact (k3 k (by omega)).2.2.2
  · rw [kg]; exact ⟨rfl, rfl, rfl⟩
  · rw [kg]; rw [kl] at hk
    obtain ⟨m1, m2, m3, m4⟩ := k3 k (by omega)
    exact ⟨m1, m2, m3⟩
theorem sky_of {σ : mM} {C : Ct} {w : Sk} (hn : σ 3 4 = (C.1 : Int)) (hv : SkV C w) (hx : SkX σ 28 C w) (hm : SkM σ C w) (h9 : 0 ≤ w.1 ∧ w.1 ≤ 999) : SkyR σ 28 182 0 := by
  obtain ⟨x1, x2, x3, x4⟩ := hx
  obtain ⟨m1, m2⟩ := hm
  have e : (σ 3 4).toNat = C.1 := by omega
  refine ⟨by rw [x1]; exact m1, by rw [x1]; exact h9, by rw [e]; exact x2, by rw [e]; exact x3, fun p hp => ?_⟩
  have hp : p < C.1 := by omega
  obtain ⟨y1, y2, y3, y4⟩ := x4 p hp
  obtain ⟨z1, z2, z3, z4⟩ := m2 p hp
  have v := hv.2 p hp
  simp only [Nat.zero_add]
  refine ⟨⟨by rw [y1]; exact z1, by rw [y1]; exact v.1⟩, by rw [y2]; exact z2, by rw [y3]; exact z3, by rw [z4]; exact y4⟩
theorem kept_of {σ : mM} {l : Kp} (hx : KpX σ l) (hm : KpM σ l) (hv : KpV l) : KeptR σ 39 182 0 := by
  obtain ⟨x1, x2⟩ := hx
  obtain ⟨m1, m2⟩ := hm
  obtain ⟨v1, v2⟩ := hv
  refine ⟨by rw [x1]; exact m1, by rw [x1]; omega, fun k hk => ?_⟩
  rw [x1] at hk
  have hk : k < l.length := by omega
  have a := x2 k hk
  obtain ⟨b1, b2, b3⟩ := m2 k hk
  have c := v2 k hk
  simp only [Nat.zero_add]
  rw [b1, b2, b3]
  exact ⟨c.1, c.2.1, c.2.2, a⟩
theorem bit_nn {v : Int} {p : Nat} : 0 ≤ bit v p ∧ bit v p ≤ 1 := by
  have := bit01 (v := v) (p := p); omega
